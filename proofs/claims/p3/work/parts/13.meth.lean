def ev_tl : List FieldType := [.int, .byte, .object "LevelUnits$Decl", .object "LevelUnits$Node", .object "LevelUnits$Strand", .object "LevelUnits$Stat", .boolean]
def ev_ol : List String := ["LevelUnits$Decl", "LevelUnits$Node", "LevelUnits$Strand", "LevelUnits$Stat"]
def ev_oc : Nat → Nat := fun j => bif Nat.beq j 2 then 1 else bif Nat.beq j 3 then 4 else bif Nat.beq j 4 then 11 else bif Nat.beq j 5 then 8 else 99
theorem ev_oc_ok : ∀ j, 2 ≤ j → j < ev_tl.length → vwCl[ev_oc j]? = none ∨ ∃ r : vw_C, vwCl[ev_oc j]? = some r ∧ ev_tl[j]? = some (.object r.1) := by
  intro j h1 h2
  have h3 : j < 7 := h2
  have h4 : j = 2 ∨ j = 3 ∨ j = 4 ∨ j = 5 ∨ j = 6 := by omega
  rcases h4 with rfl | rfl | rfl | rfl | rfl <;> first | exact Or.inr ⟨_, rfl, rfl⟩ | exact Or.inl rfl
def ev_df : Nat → List Value := fun c => bif Nat.beq c 0 then [.null, .null, .null, .int 0, .int 0, .null, .int 0] else bif Nat.beq c 1 then [.int 0, .int 0, .int 0, .int 0, .null, .null, .null, .null, .null, .int 0, .int 0, .null, .null, .int 0, .null, .null, .int 0, .int 0, .null] else bif Nat.beq c 2 then [.null, .null, .null, .null, .null, .null, .int 0, .null, .int 0, .int 0, .int 0, .null, .int 0, .null, .int 0, .null, .null, .int 0, .int 0] else bif Nat.beq c 3 then [.null, .int 0] else bif Nat.beq c 4 then [.int 0, .int 0, .int 0, .null, .int 0, .int 0, .null, .null, .null, .null, .null, .null, .null, .null, .int 0, .int 0, .null, .int 0, .null, .null] else bif Nat.beq c 5 then [.int 0, .int 0, .int 0, .int 0, .null, .null, .null, .null] else bif Nat.beq c 6 then [.null, .int 0, .int 0, .int 0, .null, .null, .int 0, .null, .null, .null, .int 0, .null, .null, .null, .null, .null, .null, .null, .null, .null] else bif Nat.beq c 7 then [.null, .null, .null, .int 0, .null, .int 0, .int 0, .int 0, .null, .null, .null, .null, .int 0] else bif Nat.beq c 8 then [.int 0, .int 0, .null, .null, .null, .null, .null, .null, .null, .null, .null, .null, .null, .null, .int 0] else bif Nat.beq c 9 then [.int 0, .null, .null, .null, .null, .int 0, .null, .null, .null, .null, .int 0, .null, .int 0] else bif Nat.beq c 10 then [.null, .int 0, .null, .null, .null] else bif Nat.beq c 11 then [.int 0, .int 0, .int 0, .int 0, .int 0, .null, .int 0, .null, .null, .int 0, .int 0, .int 0, .int 0, .int 0, .int 0, .null, .null, .null, .null, .null] else bif Nat.beq c 12 then [.null, .null, .null, .null, .null, .int 0] else bif Nat.beq c 13 then [.int 0, .null, .null, .int 0, .null, .int 0, .int 0, .int 0, .int 0, .null, .null, .null, .int 0, .null, .null, .null, .int 0, .int 0, .int 0, .int 0, .null, .null, .null, .null, .null, .null, .null, .null, .null, .null, .null, .null, .int 0, .int 0, .int 0, .int 0, .int 0, .int 0, .int 0, .int 0, .int 0, .int 0, .null, .int 0, .null, .null, .null, .null, .null, .null, .null, .null, .int 0, .null, .null, .null, .int 0, .null, .null, .int 0, .int 0, .null, .int 0, .null, .null, .int 0, .null, .int 0, .null, .int 0, .null, .null, .null, .null, .int 0, .null, .int 0, .int 0, .null, .null, .int 0, .null, .null, .int 0, .null, .int 0, .int 0, .null, .null, .int 0, .int 0, .int 0, .int 0, .int 0, .null, .null, .null, .int 0, .int 0, .null, .int 0, .int 0, .int 0, .int 0, .int 0, .null, .null, .null, .null, .null, .int 0, .null, .null, .null, .null, .int 0, .null, .null, .null, .null, .null, .null, .null, .null, .null, .null, .null, .int 0, .int 0, .int 0, .int 0, .null, .null, .int 0] else []
theorem df_X0 : ∀ j, j < 7 → defaultValue (tyX0 j) = vp_V (ev_df 0) j := by decide +kernel
theorem df_X1 : ∀ j, j < 19 → defaultValue (tyX1 j) = vp_V (ev_df 1) j := by decide +kernel
theorem df_X2 : ∀ j, j < 19 → defaultValue (tyX2 j) = vp_V (ev_df 2) j := by decide +kernel
theorem df_X3 : ∀ j, j < 2 → defaultValue (tyX3 j) = vp_V (ev_df 3) j := by decide +kernel
theorem df_X4 : ∀ j, j < 20 → defaultValue (tyX4 j) = vp_V (ev_df 4) j := by decide +kernel
theorem df_X5 : ∀ j, j < 8 → defaultValue (tyX5 j) = vp_V (ev_df 5) j := by decide +kernel
theorem df_X6 : ∀ j, j < 20 → defaultValue (tyX6 j) = vp_V (ev_df 6) j := by decide +kernel
theorem df_X7 : ∀ j, j < 13 → defaultValue (tyX7 j) = vp_V (ev_df 7) j := by decide +kernel
theorem df_X8 : ∀ j, j < 15 → defaultValue (tyX8 j) = vp_V (ev_df 8) j := by decide +kernel
theorem df_X10 : ∀ j, j < 13 → defaultValue (tyX10 j) = vp_V (ev_df 9) j := by decide +kernel
theorem df_X11 : ∀ j, j < 5 → defaultValue (tyX11 j) = vp_V (ev_df 10) j := by decide +kernel
theorem df_X9 : ∀ j, j < 20 → defaultValue (tyX9 j) = vp_V (ev_df 11) j := by decide +kernel
theorem df_X12 : ∀ j, j < 6 → defaultValue (tyX12 j) = vp_V (ev_df 12) j := by decide +kernel
theorem df_X13 : ∀ j, j < 134 → defaultValue (tyX13 j) = vp_V (ev_df 13) j := by decide +kernel
def ev_nl : List (String × Nat × MethodName × String) := [("LevelUnits", 15, yX7_init, "LevelUnits"), ("LevelUnits", 22, yX2_init, "LevelUnits"), ("LevelUnits$Types", 173, yX11_isObject, "LevelUnits"), ("LevelUnits$Types", 322, yX11_hasParts, "LevelUnits"), ("LevelUnits$Checker", 135, yX11_isObject, "LevelUnits"), ("LevelUnits$Checker", 151, yX11_isReference, "LevelUnits"), ("LevelUnits$Checker", 222, yX11_hasParts, "LevelUnits"), ("LevelUnits$Checker", 257, yX11_handlerOf, "LevelUnits"), ("LevelUnits$Machine", 388, yX11_hasParts, "LevelUnits"), ("LevelUnits$Machine", 449, yX11_handlerOf, "LevelUnits"), ("LevelUnits$Machine", 463, yX11_isObject, "LevelUnits")]
abbrev em_0 : ev_M := (yX11_init, RX11, cX11_init, 1, none, .code yX11_init cX11_init 1 none :: ev_big)
abbrev em_1 : ev_M := (yX11_feed, RX11, cX11_feed, 6, (some .int), .code yX11_feed cX11_feed 6 (some .int) :: ev_big)
abbrev em_2 : ev_M := (yX11_putBytes, RX11, cX11_putBytes, 3, none, .code yX11_putBytes cX11_putBytes 3 none :: ev_big)
abbrev em_3 : ev_M := (yX11_back, RX11, cX11_back, 2, (some .int), .code yX11_back cX11_back 2 (some .int) :: ev_big)
abbrev em_4 : ev_M := (yX11_read, RX11, cX11_read, 5, (some .int), .code yX11_read cX11_read 5 (some .int) :: ev_big)
abbrev em_5 : ev_M := (yX11_typeNumbered, RX11, cX11_typeNumbered, 2, (some (.object "LevelUnits$Node")), .code yX11_typeNumbered cX11_typeNumbered 2 (some (.object "LevelUnits$Node")) :: ev_big)
abbrev em_6 : ev_M := (yX11_unitNumbered, RX11, cX11_unitNumbered, 2, (some (.object "LevelUnits$Decl")), .code yX11_unitNumbered cX11_unitNumbered 2 (some (.object "LevelUnits$Decl")) :: ev_big)
abbrev em_7 : ev_M := (yX11_alike, RX11, cX11_alike, 5, (some .int), .code yX11_alike cX11_alike 5 (some .int) :: ev_big)
abbrev em_8 : ev_M := (yX11_below, RX11, cX11_below, 7, (some .int), .code yX11_below cX11_below 7 (some .int) :: ev_big)
abbrev em_9 : ev_M := (yX11_type, RX11, cX11_type, 5, (some .int), .code yX11_type cX11_type 5 (some .int) :: ev_big)
abbrev em_10 : ev_M := (yX11_sees, RX11, cX11_sees, 5, (some .int), .code yX11_sees cX11_sees 5 (some .int) :: ev_big)
abbrev em_11 : ev_M := (yX11_isObject, RX11, cX11_isObject, 1, (some .boolean), .code yX11_isObject cX11_isObject 1 (some .boolean) :: ev_big)
abbrev em_12 : ev_M := (yX11_hasParts, RX11, cX11_hasParts, 1, (some .boolean), .code yX11_hasParts cX11_hasParts 1 (some .boolean) :: ev_big)
abbrev em_13 : ev_M := (yX7_init, RX7, cX7_init, 1, none, .code yX7_init cX7_init 1 none :: ev_big)
abbrev em_14 : ev_M := (yX7_scan, RX7, cX7_scan, 5, none, .code yX7_scan cX7_scan 5 none :: ev_big)
abbrev em_15 : ev_M := (yX7_scanToken, RX7, cX7_scanToken, 3, (some .boolean), .code yX7_scanToken cX7_scanToken 3 (some .boolean) :: ev_big)
abbrev em_16 : ev_M := (yX7_putToken, RX7, cX7_putToken, 4, (some .boolean), .code yX7_putToken cX7_putToken 4 (some .boolean) :: ev_big)
abbrev em_17 : ev_M := (yX7_skipBlanks, RX7, cX7_skipBlanks, 3, (some .int), .code yX7_skipBlanks cX7_skipBlanks 3 (some .int) :: ev_big)
abbrev em_18 : ev_M := (yX7_isPair, RX7, cX7_isPair, 3, (some .boolean), .code yX7_isPair cX7_isPair 3 (some .boolean) :: ev_big)
abbrev em_19 : ev_M := (yX7_isLetter, RX7, cX7_isLetter, 1, (some .boolean), .code yX7_isLetter cX7_isLetter 1 (some .boolean) :: ev_big)
abbrev em_20 : ev_M := (yX7_isDigit, RX7, cX7_isDigit, 1, (some .boolean), .code yX7_isDigit cX7_isDigit 1 (some .boolean) :: ev_big)
abbrev em_21 : ev_M := (yX7_scanName, RX7, cX7_scanName, 4, (some .boolean), .code yX7_scanName cX7_scanName 4 (some .boolean) :: ev_big)
abbrev em_22 : ev_M := (yX7_wordAt, RX7, cX7_wordAt, 8, (some .int), .code yX7_wordAt cX7_wordAt 8 (some .int) :: ev_big)
abbrev em_23 : ev_M := (yX7_nameAt, RX7, cX7_nameAt, 6, (some .int), .code yX7_nameAt cX7_nameAt 6 (some .int) :: ev_big)
abbrev em_24 : ev_M := (yX7_isSameText, RX7, cX7_isSameText, 5, (some .boolean), .code yX7_isSameText cX7_isSameText 5 (some .boolean) :: ev_big)
abbrev em_25 : ev_M := (yX7_scanNumber, RX7, cX7_scanNumber, 4, (some .boolean), .code yX7_scanNumber cX7_scanNumber 4 (some .boolean) :: ev_big)
abbrev em_26 : ev_M := (yX7_scanSign, RX7, cX7_scanSign, 3, (some .boolean), .code yX7_scanSign cX7_scanSign 3 (some .boolean) :: ev_big)
abbrev em_27 : ev_M := (yX6_init, RX6, cX6_init, 2, none, .code yX6_init cX6_init 2 none :: ev_big)
abbrev em_28 : ev_M := (yX6_tokens, RX6, cX6_tokens, 1, (some .int), .code yX6_tokens cX6_tokens 1 (some .int) :: ev_big)
abbrev em_29 : ev_M := (yX6_nodeCount, RX6, cX6_nodeCount, 1, (some .int), .code yX6_nodeCount cX6_nodeCount 1 (some .int) :: ev_big)
abbrev em_30 : ev_M := (yX6_accept, RX6, cX6_accept, 2, (some .boolean), .code yX6_accept cX6_accept 2 (some .boolean) :: ev_big)
abbrev em_31 : ev_M := (yX6_advance, RX6, cX6_advance, 1, none, .code yX6_advance cX6_advance 1 none :: ev_big)
abbrev em_32 : ev_M := (yX6_take, RX6, cX6_take, 2, none, .code yX6_take cX6_take 2 none :: ev_big)
abbrev em_33 : ev_M := (yX6_takeName, RX6, cX6_takeName, 2, (some .int), .code yX6_takeName cX6_takeName 2 (some .int) :: ev_big)
abbrev em_34 : ev_M := (yX6_takeEndName, RX6, cX6_takeEndName, 2, none, .code yX6_takeEndName cX6_takeEndName 2 none :: ev_big)
abbrev em_35 : ev_M := (yX6_takeOpening, RX6, cX6_takeOpening, 2, none, .code yX6_takeOpening cX6_takeOpening 2 none :: ev_big)
abbrev em_36 : ev_M := (yX6_takeClosing, RX6, cX6_takeClosing, 2, none, .code yX6_takeClosing cX6_takeClosing 2 none :: ev_big)
abbrev em_37 : ev_M := (yX6_told, RX6, cX6_told, 4, (some (.object "LevelUnits$Decl")), .code yX6_told cX6_told 4 (some (.object "LevelUnits$Decl")) :: ev_big)
abbrev em_38 : ev_M := (yX6_qname, RX6, cX6_qname, 3, (some (.object "LevelUnits$Op")), .code yX6_qname cX6_qname 3 (some (.object "LevelUnits$Op")) :: ev_big)
abbrev em_39 : ev_M := (yX6_makeNode, RX6, cX6_makeNode, 3, (some (.object "LevelUnits$Node")), .code yX6_makeNode cX6_makeNode 3 (some (.object "LevelUnits$Node")) :: ev_big)
abbrev em_40 : ev_M := (yX6_parse, RX6, cX6_parse, 5, none, .code yX6_parse cX6_parse 5 none :: ev_big)
abbrev em_41 : ev_M := (yX6_parseImports, RX6, cX6_parseImports, 2, none, .code yX6_parseImports cX6_parseImports 2 none :: ev_big)
abbrev em_42 : ev_M := (yX6_append, RX6, cX6_append, 2, none, .code yX6_append cX6_append 2 none :: ev_big)
abbrev em_43 : ev_M := (yX6_makeBody, RX6, cX6_makeBody, 2, (some (.object "LevelUnits$Stat")), .code yX6_makeBody cX6_makeBody 2 (some (.object "LevelUnits$Stat")) :: ev_big)
abbrev em_44 : ev_M := (yX6_beginsDeclaration, RX6, cX6_beginsDeclaration, 1, (some .boolean), .code yX6_beginsDeclaration cX6_beginsDeclaration 1 (some .boolean) :: ev_big)
abbrev em_45 : ev_M := (yX6_parseDeclaration, RX6, cX6_parseDeclaration, 5, none, .code yX6_parseDeclaration cX6_parseDeclaration 5 none :: ev_big)
abbrev em_46 : ev_M := (yX6_parseTypeTold, RX6, cX6_parseTypeTold, 2, none, .code yX6_parseTypeTold cX6_parseTypeTold 2 none :: ev_big)
abbrev em_47 : ev_M := (yX6_parseReveal, RX6, cX6_parseReveal, 3, none, .code yX6_parseReveal cX6_parseReveal 3 none :: ev_big)
abbrev em_48 : ev_M := (yX6_lastOf, RX6, cX6_lastOf, 3, (some (.object "LevelUnits$Decl")), .code yX6_lastOf cX6_lastOf 3 (some (.object "LevelUnits$Decl")) :: ev_big)
abbrev em_49 : ev_M := (yX6_parseGroup, RX6, cX6_parseGroup, 7, (some (.object "LevelUnits$Decl")), .code yX6_parseGroup cX6_parseGroup 7 (some (.object "LevelUnits$Decl")) :: ev_big)
abbrev em_50 : ev_M := (yX6_beginsType, RX6, cX6_beginsType, 1, (some .boolean), .code yX6_beginsType cX6_beginsType 1 (some .boolean) :: ev_big)
abbrev em_51 : ev_M := (yX6_parseType, RX6, cX6_parseType, 3, (some (.object "LevelUnits$Node")), .code yX6_parseType cX6_parseType 3 (some (.object "LevelUnits$Node")) :: ev_big)
abbrev em_52 : ev_M := (yX6_parseShape, RX6, cX6_parseShape, 6, (some (.object "LevelUnits$Node")), .code yX6_parseShape cX6_parseShape 6 (some (.object "LevelUnits$Node")) :: ev_big)
abbrev em_53 : ev_M := (yX6_parseSimple, RX6, cX6_parseSimple, 2, (some (.object "LevelUnits$Node")), .code yX6_parseSimple cX6_parseSimple 2 (some (.object "LevelUnits$Node")) :: ev_big)
abbrev em_54 : ev_M := (yX6_parseNamed, RX6, cX6_parseNamed, 2, (some (.object "LevelUnits$Node")), .code yX6_parseNamed cX6_parseNamed 2 (some (.object "LevelUnits$Node")) :: ev_big)
abbrev em_55 : ev_M := (yX6_parseBounds, RX6, cX6_parseBounds, 2, none, .code yX6_parseBounds cX6_parseBounds 2 none :: ev_big)
abbrev em_56 : ev_M := (yX6_parseBound, RX6, cX6_parseBound, 3, (some .int), .code yX6_parseBound cX6_parseBound 3 (some .int) :: ev_big)
abbrev em_57 : ev_M := (yX6_parseFields, RX6, cX6_parseFields, 6, (some (.object "LevelUnits$Decl")), .code yX6_parseFields cX6_parseFields 6 (some (.object "LevelUnits$Decl")) :: ev_big)
abbrev em_58 : ev_M := (yX6_parseLevel, RX6, cX6_parseLevel, 5, (some (.object "LevelUnits$Node")), .code yX6_parseLevel cX6_parseLevel 5 (some (.object "LevelUnits$Node")) :: ev_big)
abbrev em_59 : ev_M := (yX6_beginsStatement, RX6, cX6_beginsStatement, 1, (some .boolean), .code yX6_beginsStatement cX6_beginsStatement 1 (some .boolean) :: ev_big)
abbrev em_60 : ev_M := (yX6_parseStatements, RX6, cX6_parseStatements, 5, none, .code yX6_parseStatements cX6_parseStatements 5 none :: ev_big)
abbrev em_61 : ev_M := (yX3_init, RX3, cX3_init, 2, none, .code yX3_init cX3_init 2 none :: ev_big)
abbrev em_62 : ev_M := (yX3_judge, RX3, cX3_judge, 3, (some .int), .code yX3_judge cX3_judge 3 (some .int) :: ev_big)
abbrev em_63 : ev_M := (yX3_interfaceAhead, RX3, cX3_interfaceAhead, 4, (some (.object "LevelUnits$Decl")), .code yX3_interfaceAhead cX3_interfaceAhead 4 (some (.object "LevelUnits$Decl")) :: ev_big)
abbrev em_64 : ev_M := (yX3_judgeUnit, RX3, cX3_judgeUnit, 3, none, .code yX3_judgeUnit cX3_judgeUnit 3 none :: ev_big)
abbrev em_65 : ev_M := (yX3_linkProcedures, RX3, cX3_linkProcedures, 4, none, .code yX3_linkProcedures cX3_linkProcedures 4 none :: ev_big)
abbrev em_66 : ev_M := (yX3_toldBy, RX3, cX3_toldBy, 3, (some (.object "LevelUnits$Decl")), .code yX3_toldBy cX3_toldBy 3 (some (.object "LevelUnits$Decl")) :: ev_big)
abbrev em_67 : ev_M := (yX3_knownIn, RX3, cX3_knownIn, 3, (some (.object "LevelUnits$Decl")), .code yX3_knownIn cX3_knownIn 3 (some (.object "LevelUnits$Decl")) :: ev_big)
abbrev em_68 : ev_M := (yX3_judgeDeclaration, RX3, cX3_judgeDeclaration, 4, none, .code yX3_judgeDeclaration cX3_judgeDeclaration 4 none :: ev_big)
abbrev em_69 : ev_M := (yX3_isToldByInterface, RX3, cX3_isToldByInterface, 3, (some .boolean), .code yX3_isToldByInterface cX3_isToldByInterface 3 (some .boolean) :: ev_big)
abbrev em_70 : ev_M := (yX3_isThere, RX3, cX3_isThere, 3, (some .boolean), .code yX3_isThere cX3_isThere 3 (some .boolean) :: ev_big)
abbrev em_71 : ev_M := (yX3_judgeNode, RX3, cX3_judgeNode, 3, none, .code yX3_judgeNode cX3_judgeNode 3 none :: ev_big)
abbrev em_72 : ev_M := (yX3_judgeUse, RX3, cX3_judgeUse, 6, none, .code yX3_judgeUse cX3_judgeUse 6 none :: ev_big)
abbrev em_73 : ev_M := (yX10_init, RX10, cX10_init, 7, none, .code yX10_init cX10_init 7 none :: ev_big)
abbrev em_74 : ev_M := (yX10_prepare, RX10, cX10_prepare, 3, none, .code yX10_prepare cX10_prepare 3 none :: ev_big)
abbrev em_75 : ev_M := (yX10_number, RX10, cX10_number, 6, none, .code yX10_number cX10_number 6 none :: ev_big)
abbrev em_76 : ev_M := (yX10_replaced, RX10, cX10_replaced, 6, (some (.object "LevelUnits$Node")), .code yX10_replaced cX10_replaced 6 (some (.object "LevelUnits$Node")) :: ev_big)
abbrev em_77 : ev_M := (yX10_linkReveals, RX10, cX10_linkReveals, 5, none, .code yX10_linkReveals cX10_linkReveals 5 none :: ev_big)
abbrev em_78 : ev_M := (yX10_revealed, RX10, cX10_revealed, 1, (some (.object "LevelUnits$Node")), .code yX10_revealed cX10_revealed 1 (some (.object "LevelUnits$Node")) :: ev_big)
abbrev em_79 : ev_M := (yX10_levelOf, RX10, cX10_levelOf, 4, (some (.object "LevelUnits$Node")), .code yX10_levelOf cX10_levelOf 4 (some (.object "LevelUnits$Node")) :: ev_big)
abbrev em_80 : ev_M := (yX10_aboveInWhole, RX10, cX10_aboveInWhole, 3, (some (.object "LevelUnits$Node")), .code yX10_aboveInWhole cX10_aboveInWhole 3 (some (.object "LevelUnits$Node")) :: ev_big)
abbrev em_81 : ev_M := (yX10_above, RX10, cX10_above, 3, (some (.object "LevelUnits$Node")), .code yX10_above cX10_above 3 (some (.object "LevelUnits$Node")) :: ev_big)
abbrev em_82 : ev_M := (yX10_findViews, RX10, cX10_findViews, 3, none, .code yX10_findViews cX10_findViews 3 none :: ev_big)
abbrev em_83 : ev_M := (yX10_viewed, RX10, cX10_viewed, 6, (some (.object "LevelUnits$Node")), .code yX10_viewed cX10_viewed 6 (some (.object "LevelUnits$Node")) :: ev_big)
abbrev em_84 : ev_M := (yX10_isToldAbove, RX10, cX10_isToldAbove, 4, (some .boolean), .code yX10_isToldAbove cX10_isToldAbove 4 (some .boolean) :: ev_big)
abbrev em_85 : ev_M := (yX10_wholeChain, RX10, cX10_wholeChain, 4, (some .int), .code yX10_wholeChain cX10_wholeChain 4 (some .int) :: ev_big)
abbrev em_86 : ev_M := (yX10_chainSeen, RX10, cX10_chainSeen, 5, (some .int), .code yX10_chainSeen cX10_chainSeen 5 (some .int) :: ev_big)
abbrev em_87 : ev_M := (yX10_findShapes, RX10, cX10_findShapes, 11, none, .code yX10_findShapes cX10_findShapes 11 none :: ev_big)
abbrev em_88 : ev_M := (yX10_isOwnType, RX10, cX10_isOwnType, 1, (some .boolean), .code yX10_isOwnType cX10_isOwnType 1 (some .boolean) :: ev_big)
abbrev em_89 : ev_M := (yX10_modelOf, RX10, cX10_modelOf, 6, (some .int), .code yX10_modelOf cX10_modelOf 6 (some .int) :: ev_big)
abbrev em_90 : ev_M := (yX10_isLike, RX10, cX10_isLike, 4, (some .boolean), .code yX10_isLike cX10_isLike 4 (some .boolean) :: ev_big)
abbrev em_91 : ev_M := (yX10_isSameElem, RX10, cX10_isSameElem, 2, (some .boolean), .code yX10_isSameElem cX10_isSameElem 2 (some .boolean) :: ev_big)
abbrev em_92 : ev_M := (yX10_isSameProcedure, RX10, cX10_isSameProcedure, 2, (some .boolean), .code yX10_isSameProcedure cX10_isSameProcedure 2 (some .boolean) :: ev_big)
abbrev em_93 : ev_M := (yX10_hasOverrides, RX10, cX10_hasOverrides, 4, (some .boolean), .code yX10_hasOverrides cX10_hasOverrides 4 (some .boolean) :: ev_big)
abbrev em_94 : ev_M := (yX10_isWithin, RX10, cX10_isWithin, 4, (some .boolean), .code yX10_isWithin cX10_isWithin 4 (some .boolean) :: ev_big)
abbrev em_95 : ev_M := (yX10_isBelow, RX10, cX10_isBelow, 6, (some .boolean), .code yX10_isBelow cX10_isBelow 6 (some .boolean) :: ev_big)
abbrev em_96 : ev_M := (yX10_findCells, RX10, cX10_findCells, 3, (some .boolean), .code yX10_findCells cX10_findCells 3 (some .boolean) :: ev_big)
abbrev em_97 : ev_M := (yX10_cellsOf, RX10, cX10_cellsOf, 5, (some .int), .code yX10_cellsOf cX10_cellsOf 5 (some .int) :: ev_big)
abbrev em_98 : ev_M := (yX10_firstsOf, RX10, cX10_firstsOf, 4, (some (.array .int)), .code yX10_firstsOf cX10_firstsOf 4 (some (.array .int)) :: ev_big)
abbrev em_99 : ev_M := (yX10_judge, RX10, cX10_judge, 3, (some .int), .code yX10_judge cX10_judge 3 (some .int) :: ev_big)
abbrev em_100 : ev_M := (yX10_judgeDeclaration, RX10, cX10_judgeDeclaration, 2, none, .code yX10_judgeDeclaration cX10_judgeDeclaration 2 none :: ev_big)
abbrev em_101 : ev_M := (yX10_judgeReveal, RX10, cX10_judgeReveal, 3, none, .code yX10_judgeReveal cX10_judgeReveal 3 none :: ev_big)
abbrev em_102 : ev_M := (yX10_isAboveInWhole, RX10, cX10_isAboveInWhole, 5, (some .boolean), .code yX10_isAboveInWhole cX10_isAboveInWhole 5 (some .boolean) :: ev_big)
abbrev em_103 : ev_M := (yX10_isInRing, RX10, cX10_isInRing, 4, (some .boolean), .code yX10_isInRing cX10_isInRing 4 (some .boolean) :: ev_big)
abbrev em_104 : ev_M := (yX10_aboveByName, RX10, cX10_aboveByName, 3, (some (.object "LevelUnits$Decl")), .code yX10_aboveByName cX10_aboveByName 3 (some (.object "LevelUnits$Decl")) :: ev_big)
abbrev em_105 : ev_M := (yX10_judgeNode, RX10, cX10_judgeNode, 2, none, .code yX10_judgeNode cX10_judgeNode 2 none :: ev_big)
abbrev em_106 : ev_M := (yX10_judgeMethods, RX10, cX10_judgeMethods, 5, none, .code yX10_judgeMethods cX10_judgeMethods 5 none :: ev_big)
abbrev em_107 : ev_M := (yX10_layOut, RX10, cX10_layOut, 5, none, .code yX10_layOut cX10_layOut 5 none :: ev_big)
abbrev em_108 : ev_M := (yX10_fieldCells, RX10, cX10_fieldCells, 5, (some .int), .code yX10_fieldCells cX10_fieldCells 5 (some .int) :: ev_big)
abbrev em_109 : ev_M := (yX0_init, RX0, cX0_init, 2, none, .code yX0_init cX0_init 2 none :: ev_big)
abbrev em_110 : ev_M := (yX0_judgeTypes, RX0, cX0_judgeTypes, 3, (some .int), .code yX0_judgeTypes cX0_judgeTypes 3 (some .int) :: ev_big)
abbrev em_111 : ev_M := (yX0_judgeExceptions, RX0, cX0_judgeExceptions, 4, (some .int), .code yX0_judgeExceptions cX0_judgeExceptions 4 (some .int) :: ev_big)
abbrev em_112 : ev_M := (yX2_init, RX2, cX2_init, 1, none, .code yX2_init cX2_init 1 none :: ev_big)
abbrev em_113 : ev_M := (yX2_clear, RX2, cX2_clear, 1, none, .code yX2_clear cX2_clear 1 none :: ev_big)
abbrev em_114 : ev_M := (yX1_init, RX1, cX1_init, 5, none, .code yX1_init cX1_init 5 none :: ev_big)
abbrev em_115 : ev_M := (yX4_init, RX4, cX4_init, 5, none, .code yX4_init cX4_init 5 none :: ev_big)
abbrev em_116 : ev_M := (yX5_init, RX5, cX5_init, 5, none, .code yX5_init cX5_init 5 none :: ev_big)
abbrev em_117 : ev_M := (yX8_init, RX8, cX8_init, 5, none, .code yX8_init cX8_init 5 none :: ev_big)
abbrev em_118 : ev_M := (yJ7_fill_53178, RJ7, cJ7_fill_53178, 4, none, .code yJ7_fill_53178 cJ7_fill_53178 4 none :: ev_big)
abbrev em_119 : ev_M := (yX0_fault, RX0, cX0_fault, 2, none, .code yX0_fault cX0_fault 2 none :: ev_big)
abbrev em_120 : ev_M := (yX0_judgeStatement, RX0, cX0_judgeStatement, 6, none, .code yX0_judgeStatement cX0_judgeStatement 6 none :: ev_big)
abbrev em_121 : ev_M := (yX0_kindOfE, RX0, cX0_kindOfE, 1, (some .int), .code yX0_kindOfE cX0_kindOfE 1 (some .int) :: ev_big)
abbrev em_122 : ev_M := (yX0_needKind, RX0, cX0_needKind, 5, none, .code yX0_needKind cX0_needKind 5 none :: ev_big)
abbrev em_123 : ev_M := (yX0_isInLoop, RX0, cX0_isInLoop, 3, (some .boolean), .code yX0_isInLoop cX0_isInLoop 3 (some .boolean) :: ev_big)
abbrev em_124 : ev_M := (yX0_judgeReturn, RX0, cX0_judgeReturn, 4, none, .code yX0_judgeReturn cX0_judgeReturn 4 none :: ev_big)
abbrev em_125 : ev_M := (yX0_judgeTypecase, RX0, cX0_judgeTypecase, 4, none, .code yX0_judgeTypecase cX0_judgeTypecase 4 none :: ev_big)
abbrev em_126 : ev_M := (yX0_needRelated, RX0, cX0_needRelated, 3, none, .code yX0_needRelated cX0_needRelated 3 none :: ev_big)
abbrev em_127 : ev_M := (yX0_isNumber, RX0, cX0_isNumber, 1, (some .boolean), .code yX0_isNumber cX0_isNumber 1 (some .boolean) :: ev_big)
abbrev em_128 : ev_M := (yX0_needAssignable, RX0, cX0_needAssignable, 3, none, .code yX0_needAssignable cX0_needAssignable 3 none :: ev_big)
abbrev em_129 : ev_M := (yX0_isFixedName, RX0, cX0_isFixedName, 2, (some .boolean), .code yX0_isFixedName cX0_isFixedName 2 (some .boolean) :: ev_big)
abbrev em_130 : ev_M := (yX0_isLoad, RX0, cX0_isLoad, 1, (some .boolean), .code yX0_isLoad cX0_isLoad 1 (some .boolean) :: ev_big)
abbrev em_131 : ev_M := (yX0_target, RX0, cX0_target, 3, (some (.object "LevelUnits$Node")), .code yX0_target cX0_target 3 (some (.object "LevelUnits$Node")) :: ev_big)
abbrev em_132 : ev_M := (yX0_judgeCall, RX0, cX0_judgeCall, 7, none, .code yX0_judgeCall cX0_judgeCall 7 none :: ev_big)
abbrev em_133 : ev_M := (yX0_judgeParameter, RX0, cX0_judgeParameter, 6, none, .code yX0_judgeParameter cX0_judgeParameter 6 none :: ev_big)
abbrev em_134 : ev_M := (yX0_push, RX0, cX0_push, 2, none, .code yX0_push cX0_push 2 none :: ev_big)
abbrev em_135 : ev_M := (yX0_pop, RX0, cX0_pop, 1, (some (.object "LevelUnits$Node")), .code yX0_pop cX0_pop 1 (some (.object "LevelUnits$Node")) :: ev_big)
abbrev em_136 : ev_M := (yX0_typeOf, RX0, cX0_typeOf, 5, (some (.object "LevelUnits$Node")), .code yX0_typeOf cX0_typeOf 5 (some (.object "LevelUnits$Node")) :: ev_big)
abbrev em_137 : ev_M := (yX0_judgeName, RX0, cX0_judgeName, 2, none, .code yX0_judgeName cX0_judgeName 2 none :: ev_big)
abbrev em_138 : ev_M := (yX0_judgeMember, RX0, cX0_judgeMember, 5, none, .code yX0_judgeMember cX0_judgeMember 5 none :: ev_big)
abbrev em_139 : ev_M := (yX0_judgeInside, RX0, cX0_judgeInside, 4, none, .code yX0_judgeInside cX0_judgeInside 4 none :: ev_big)
abbrev em_140 : ev_M := (yX0_judgeNew, RX0, cX0_judgeNew, 4, none, .code yX0_judgeNew cX0_judgeNew 4 none :: ev_big)
abbrev em_141 : ev_M := (yX0_judgeOperator, RX0, cX0_judgeOperator, 5, none, .code yX0_judgeOperator cX0_judgeOperator 5 none :: ev_big)
abbrev em_142 : ev_M := (yX0_judgeEqual, RX0, cX0_judgeEqual, 6, none, .code yX0_judgeEqual cX0_judgeEqual 6 none :: ev_big)
abbrev em_143 : ev_M := (yX0_judgeHandlers, RX0, cX0_judgeHandlers, 4, none, .code yX0_judgeHandlers cX0_judgeHandlers 4 none :: ev_big)
abbrev em_144 : ev_M := (yX0_judgeLeaving, RX0, cX0_judgeLeaving, 6, none, .code yX0_judgeLeaving cX0_judgeLeaving 6 none :: ev_big)
abbrev em_145 : ev_M := (yX2_begun, RX2, cX2_begun, 1, (some .boolean), .code yX2_begun cX2_begun 1 (some .boolean) :: ev_big)
abbrev em_146 : ev_M := (yX2_startAnew, RX2, cX2_startAnew, 5, none, .code yX2_startAnew cX2_startAnew 5 none :: ev_big)
abbrev em_147 : ev_M := (yX2_fill, RX2, cX2_fill, 3, none, .code yX2_fill cX2_fill 3 none :: ev_big)
abbrev em_148 : ev_M := (yX2_goToUnit, RX2, cX2_goToUnit, 4, none, .code yX2_goToUnit cX2_goToUnit 4 none :: ev_big)
abbrev em_149 : ev_M := (yX2_newStrand, RX2, cX2_newStrand, 2, (some (.object "LevelUnits$Strand")), .code yX2_newStrand cX2_newStrand 2 (some (.object "LevelUnits$Strand")) :: ev_big)
abbrev em_150 : ev_M := (yX2_doStep, RX2, cX2_doStep, 2, (some .boolean), .code yX2_doStep cX2_doStep 2 (some .boolean) :: ev_big)
abbrev em_151 : ev_M := (yX2_chosen, RX2, cX2_chosen, 4, (some (.object "LevelUnits$Strand")), .code yX2_chosen cX2_chosen 4 (some (.object "LevelUnits$Strand")) :: ev_big)
abbrev em_152 : ev_M := (yX2_stopWaiting, RX2, cX2_stopWaiting, 3, none, .code yX2_stopWaiting cX2_stopWaiting 3 none :: ev_big)
abbrev em_153 : ev_M := (yX2_countReady, RX2, cX2_countReady, 3, (some .int), .code yX2_countReady cX2_countReady 3 (some .int) :: ev_big)
abbrev em_154 : ev_M := (yX2_isReady, RX2, cX2_isReady, 2, (some .boolean), .code yX2_isReady cX2_isReady 2 (some .boolean) :: ev_big)
abbrev em_155 : ev_M := (yX2_isOver, RX2, cX2_isOver, 2, (some .boolean), .code yX2_isOver cX2_isOver 2 (some .boolean) :: ev_big)
abbrev em_156 : ev_M := (yX2_holderOf, RX2, cX2_holderOf, 2, (some .int), .code yX2_holderOf cX2_holderOf 2 (some .int) :: ev_big)
abbrev em_157 : ev_M := (yX2_hold, RX2, cX2_hold, 3, none, .code yX2_hold cX2_hold 3 none :: ev_big)
abbrev em_158 : ev_M := (yX2_endByFault, RX2, cX2_endByFault, 2, none, .code yX2_endByFault cX2_endByFault 2 none :: ev_big)
abbrev em_159 : ev_M := (yX2_fail, RX2, cX2_fail, 2, none, .code yX2_fail cX2_fail 2 none :: ev_big)
abbrev em_160 : ev_M := (yX2_takeMutex, RX2, cX2_takeMutex, 4, none, .code yX2_takeMutex cX2_takeMutex 4 none :: ev_big)
abbrev em_161 : ev_M := (yX2_act, RX2, cX2_act, 5, none, .code yX2_act cX2_act 5 none :: ev_big)
abbrev em_162 : ev_M := (yX2_goIf, RX2, cX2_goIf, 4, none, .code yX2_goIf cX2_goIf 4 none :: ev_big)
abbrev em_163 : ev_M := (yX2_doIf, RX2, cX2_doIf, 4, none, .code yX2_doIf cX2_doIf 4 none :: ev_big)
abbrev em_164 : ev_M := (yX2_doFor, RX2, cX2_doFor, 6, none, .code yX2_doFor cX2_doFor 6 none :: ev_big)
abbrev em_165 : ev_M := (yX2_doTypecase, RX2, cX2_doTypecase, 5, none, .code yX2_doTypecase cX2_doTypecase 5 none :: ev_big)
abbrev em_166 : ev_M := (yX2_leave, RX2, cX2_leave, 4, none, .code yX2_leave cX2_leave 4 none :: ev_big)
abbrev em_167 : ev_M := (yX2_doThreads, RX2, cX2_doThreads, 5, none, .code yX2_doThreads cX2_doThreads 5 none :: ev_big)
abbrev em_168 : ev_M := (yX2_waitInRow, RX2, cX2_waitInRow, 4, none, .code yX2_waitInRow cX2_waitInRow 4 none :: ev_big)
abbrev em_169 : ev_M := (yX2_wake, RX2, cX2_wake, 6, none, .code yX2_wake cX2_wake 6 none :: ev_big)
abbrev em_170 : ev_M := (yX2_call, RX2, cX2_call, 8, none, .code yX2_call cX2_call 8 none :: ev_big)
abbrev em_171 : ev_M := (yX2_calledProcedure, RX2, cX2_calledProcedure, 5, (some .int), .code yX2_calledProcedure cX2_calledProcedure 5 (some .int) :: ev_big)
abbrev em_172 : ev_M := (yX2_methodOf, RX2, cX2_methodOf, 7, (some .int), .code yX2_methodOf cX2_methodOf 7 (some .int) :: ev_big)
abbrev em_173 : ev_M := (yX2_isSameMethod, RX2, cX2_isSameMethod, 2, (some .boolean), .code yX2_isSameMethod cX2_isSameMethod 2 (some .boolean) :: ev_big)
abbrev em_174 : ev_M := (yX2_passParameters, RX2, cX2_passParameters, 8, none, .code yX2_passParameters cX2_passParameters 8 none :: ev_big)
abbrev em_175 : ev_M := (yX2_openCall, RX2, cX2_openCall, 6, none, .code yX2_openCall cX2_openCall 6 none :: ev_big)
abbrev em_176 : ev_M := (yX2_closeCall, RX2, cX2_closeCall, 3, (some (.object "LevelUnits$Stat")), .code yX2_closeCall cX2_closeCall 3 (some (.object "LevelUnits$Stat")) :: ev_big)
abbrev em_177 : ev_M := (yX2_goOn, RX2, cX2_goOn, 3, none, .code yX2_goOn cX2_goOn 3 none :: ev_big)
abbrev em_178 : ev_M := (yX2_passEnd, RX2, cX2_passEnd, 4, none, .code yX2_passEnd cX2_passEnd 4 none :: ev_big)
abbrev em_179 : ev_M := (yX2_endBody, RX2, cX2_endBody, 3, none, .code yX2_endBody cX2_endBody 3 none :: ev_big)
abbrev em_180 : ev_M := (yX2_goToCaller, RX2, cX2_goToCaller, 3, none, .code yX2_goToCaller cX2_goToCaller 3 none :: ev_big)
abbrev em_181 : ev_M := (yX2_goFinally, RX2, cX2_goFinally, 4, none, .code yX2_goFinally cX2_goFinally 4 none :: ev_big)
abbrev em_182 : ev_M := (yX2_goFromFinally, RX2, cX2_goFromFinally, 4, none, .code yX2_goFromFinally cX2_goFromFinally 4 none :: ev_big)
abbrev em_183 : ev_M := (yX2_passOut, RX2, cX2_passOut, 4, none, .code yX2_passOut cX2_passOut 4 none :: ev_big)
abbrev em_184 : ev_M := (yX2_goToHandler, RX2, cX2_goToHandler, 4, none, .code yX2_goToHandler cX2_goToHandler 4 none :: ev_big)
abbrev em_185 : ev_M := (yX2_leaveBody, RX2, cX2_leaveBody, 4, none, .code yX2_leaveBody cX2_leaveBody 4 none :: ev_big)
abbrev em_186 : ev_M := (yX2_rowOf, RX2, cX2_rowOf, 3, (some (.array .int)), .code yX2_rowOf cX2_rowOf 3 (some (.array .int)) :: ev_big)
abbrev em_187 : ev_M := (yX2_fetch, RX2, cX2_fetch, 5, (some .int), .code yX2_fetch cX2_fetch 5 (some .int) :: ev_big)
abbrev em_188 : ev_M := (yX2_store, RX2, cX2_store, 6, none, .code yX2_store cX2_store 6 none :: ev_big)
abbrev em_189 : ev_M := (yX2_copyCells, RX2, cX2_copyCells, 5, none, .code yX2_copyCells cX2_copyCells 5 none :: ev_big)
abbrev em_190 : ev_M := (yX2_assign, RX2, cX2_assign, 5, none, .code yX2_assign cX2_assign 5 none :: ev_big)
abbrev em_191 : ev_M := (yX2_holdAgainst, RX2, cX2_holdAgainst, 3, (some .int), .code yX2_holdAgainst cX2_holdAgainst 3 (some .int) :: ev_big)
abbrev em_192 : ev_M := (yX2_isOf, RX2, cX2_isOf, 4, (some .boolean), .code yX2_isOf cX2_isOf 4 (some .boolean) :: ev_big)
abbrev em_193 : ev_M := (yX2_worth, RX2, cX2_worth, 4, (some .int), .code yX2_worth cX2_worth 4 (some .int) :: ev_big)
abbrev em_194 : ev_M := (yX2_push, RX2, cX2_push, 2, none, .code yX2_push cX2_push 2 none :: ev_big)
abbrev em_195 : ev_M := (yX2_pop, RX2, cX2_pop, 1, (some .int), .code yX2_pop cX2_pop 1 (some .int) :: ev_big)
abbrev em_196 : ev_M := (yX2_placeOf, RX2, cX2_placeOf, 4, (some .int), .code yX2_placeOf cX2_placeOf 4 (some .int) :: ev_big)
abbrev em_197 : ev_M := (yX2_insideOf, RX2, cX2_insideOf, 2, (some .int), .code yX2_insideOf cX2_insideOf 2 (some .int) :: ev_big)
abbrev em_198 : ev_M := (yX2_pushElement, RX2, cX2_pushElement, 4, none, .code yX2_pushElement cX2_pushElement 4 none :: ev_big)
abbrev em_199 : ev_M := (yX2_pushNumber, RX2, cX2_pushNumber, 3, none, .code yX2_pushNumber cX2_pushNumber 3 none :: ev_big)
abbrev em_200 : ev_M := (yX2_operate, RX2, cX2_operate, 4, (some .long), .code yX2_operate cX2_operate 4 (some .long) :: ev_big)
abbrev em_201 : ev_M := (yX2_makeThing, RX2, cX2_makeThing, 8, (some .int), .code yX2_makeThing cX2_makeThing 8 (some .int) :: ev_big)
abbrev em_202 : ev_M := (yX2_figure, RX2, cX2_figure, 2, (some .int), .code yX2_figure cX2_figure 2 (some .int) :: ev_big)
abbrev em_203 : ev_M := (yX2_howItIs, RX2, cX2_howItIs, 1, (some .int), .code yX2_howItIs cX2_howItIs 1 (some .int) :: ev_big)
abbrev em_204 : ev_M := (yX2_countOver, RX2, cX2_countOver, 3, (some .int), .code yX2_countOver cX2_countOver 3 (some .int) :: ev_big)
abbrev em_205 : ev_M := (yX2_countCallCells, RX2, cX2_countCallCells, 3, (some .int), .code yX2_countCallCells cX2_countCallCells 3 (some .int) :: ev_big)
abbrev em_206 : ev_M := (yX2_countHeld, RX2, cX2_countHeld, 3, (some .int), .code yX2_countHeld cX2_countHeld 3 (some .int) :: ev_big)
abbrev em_207 : ev_M := (yX2_outputAt, RX2, cX2_outputAt, 2, (some .int), .code yX2_outputAt cX2_outputAt 2 (some .int) :: ev_big)
abbrev em_208 : ev_M := (yX2_globalAt, RX2, cX2_globalAt, 2, (some .int), .code yX2_globalAt cX2_globalAt 2 (some .int) :: ev_big)
abbrev em_209 : ev_M := (yX2_threadTold, RX2, cX2_threadTold, 5, (some .int), .code yX2_threadTold cX2_threadTold 5 (some .int) :: ev_big)
abbrev em_210 : ev_M := (yX2_thingTold, RX2, cX2_thingTold, 4, (some .int), .code yX2_thingTold cX2_thingTold 4 (some .int) :: ev_big)
abbrev em_211 : ev_M := (yX2_countRow, RX2, cX2_countRow, 4, (some .int), .code yX2_countRow cX2_countRow 4 (some .int) :: ev_big)
abbrev em_212 : ev_M := (yX2_cellOfThing, RX2, cX2_cellOfThing, 3, (some .int), .code yX2_cellOfThing cX2_cellOfThing 3 (some .int) :: ev_big)
abbrev em_213 : ev_M := (yX3_fault, RX3, cX3_fault, 3, none, .code yX3_fault cX3_fault 3 none :: ev_big)
abbrev em_214 : ev_M := (yX3_judgeStatement, RX3, cX3_judgeStatement, 4, none, .code yX3_judgeStatement cX3_judgeStatement 4 none :: ev_big)
abbrev em_215 : ev_M := (yX3_judgePlaces, RX3, cX3_judgePlaces, 4, none, .code yX3_judgePlaces cX3_judgePlaces 4 none :: ev_big)
abbrev em_216 : ev_M := (yX3_judgePlace, RX3, cX3_judgePlace, 5, none, .code yX3_judgePlace cX3_judgePlace 5 none :: ev_big)
abbrev em_217 : ev_M := (yX3_innermost, RX3, cX3_innermost, 5, (some (.object "LevelUnits$Decl")), .code yX3_innermost cX3_innermost 5 (some (.object "LevelUnits$Decl")) :: ev_big)
abbrev em_218 : ev_M := (yX6_fail, RX6, cX6_fail, 2, none, .code yX6_fail cX6_fail 2 none :: ev_big)
abbrev em_219 : ev_M := (yX6_parseProcedure, RX6, cX6_parseProcedure, 6, none, .code yX6_parseProcedure cX6_parseProcedure 6 none :: ev_big)
abbrev em_220 : ev_M := (yX6_parseMethods, RX6, cX6_parseMethods, 8, (some (.object "LevelUnits$Decl")), .code yX6_parseMethods cX6_parseMethods 8 (some (.object "LevelUnits$Decl")) :: ev_big)
abbrev em_221 : ev_M := (yX6_parseSignature, RX6, cX6_parseSignature, 4, (some (.object "LevelUnits$Node")), .code yX6_parseSignature cX6_parseSignature 4 (some (.object "LevelUnits$Node")) :: ev_big)
abbrev em_222 : ev_M := (yX6_parseFormals, RX6, cX6_parseFormals, 5, (some (.object "LevelUnits$Decl")), .code yX6_parseFormals cX6_parseFormals 5 (some (.object "LevelUnits$Decl")) :: ev_big)
abbrev em_223 : ev_M := (yX6_parseStatement, RX6, cX6_parseStatement, 4, (some (.object "LevelUnits$Stat")), .code yX6_parseStatement cX6_parseStatement 4 (some (.object "LevelUnits$Stat")) :: ev_big)
abbrev em_224 : ev_M := (yX6_parseWorded, RX6, cX6_parseWorded, 2, none, .code yX6_parseWorded cX6_parseWorded 2 none :: ev_big)
abbrev em_225 : ev_M := (yX6_makePart, RX6, cX6_makePart, 5, (some (.object "LevelUnits$Stat")), .code yX6_makePart cX6_makePart 5 (some (.object "LevelUnits$Stat")) :: ev_big)
abbrev em_226 : ev_M := (yX6_parseIf, RX6, cX6_parseIf, 4, none, .code yX6_parseIf cX6_parseIf 4 none :: ev_big)
abbrev em_227 : ev_M := (yX6_toldInSlot, RX6, cX6_toldInSlot, 4, (some (.object "LevelUnits$Decl")), .code yX6_toldInSlot cX6_toldInSlot 4 (some (.object "LevelUnits$Decl")) :: ev_big)
abbrev em_228 : ev_M := (yX6_parseFor, RX6, cX6_parseFor, 2, none, .code yX6_parseFor cX6_parseFor 2 none :: ev_big)
abbrev em_229 : ev_M := (yX6_parseTry, RX6, cX6_parseTry, 4, none, .code yX6_parseTry cX6_parseTry 4 none :: ev_big)
abbrev em_230 : ev_M := (yX6_parseTypecase, RX6, cX6_parseTypecase, 4, none, .code yX6_parseTypecase cX6_parseTypecase 4 none :: ev_big)
abbrev em_231 : ev_M := (yX6_parsePartName, RX6, cX6_parsePartName, 3, none, .code yX6_parsePartName cX6_parsePartName 3 none :: ev_big)
abbrev em_232 : ev_M := (yX6_parseAction, RX6, cX6_parseAction, 5, none, .code yX6_parseAction cX6_parseAction 5 none :: ev_big)
abbrev em_233 : ev_M := (yX6_put, RX6, cX6_put, 5, none, .code yX6_put cX6_put 5 none :: ev_big)
abbrev em_234 : ev_M := (yX6_parsePlace, RX6, cX6_parsePlace, 3, (some (.object "LevelUnits$Op")), .code yX6_parsePlace cX6_parsePlace 3 (some (.object "LevelUnits$Op")) :: ev_big)
abbrev em_235 : ev_M := (yX6_parseE, RX6, cX6_parseE, 8, (some (.object "LevelUnits$Op")), .code yX6_parseE cX6_parseE 8 (some (.object "LevelUnits$Op")) :: ev_big)
abbrev em_236 : ev_M := (yX6_parsePrefixes, RX6, cX6_parsePrefixes, 4, none, .code yX6_parsePrefixes cX6_parsePrefixes 4 none :: ev_big)
abbrev em_237 : ev_M := (yX6_await, RX6, cX6_await, 3, none, .code yX6_await cX6_await 3 none :: ev_big)
abbrev em_238 : ev_M := (yX6_lastBinds, RX6, cX6_lastBinds, 2, (some .int), .code yX6_lastBinds cX6_lastBinds 2 (some .int) :: ev_big)
abbrev em_239 : ev_M := (yX6_putWaiting, RX6, cX6_putWaiting, 5, none, .code yX6_putWaiting cX6_putWaiting 5 none :: ev_big)
abbrev em_240 : ev_M := (yX6_binding, RX6, cX6_binding, 1, (some .int), .code yX6_binding cX6_binding 1 (some .int) :: ev_big)
abbrev em_241 : ev_M := (yX6_parseOperand, RX6, cX6_parseOperand, 5, none, .code yX6_parseOperand cX6_parseOperand 5 none :: ev_big)
abbrev em_242 : ev_M := (yX7_skipNote, RX7, cX7_skipNote, 2, (some .boolean), .code yX7_skipNote cX7_skipNote 2 (some .boolean) :: ev_big)
abbrev em_243 : ev_M := (yX9_init, RX9, cX9_init, 2, none, .code yX9_init cX9_init 2 none :: ev_big)
abbrev em_244 : ev_M := (yX9_hasEnded, RX9, cX9_hasEnded, 1, (some .boolean), .code yX9_hasEnded cX9_hasEnded 1 (some .boolean) :: ev_big)
abbrev em_245 : ev_M := (yX9_base, RX9, cX9_base, 1, (some .int), .code yX9_base cX9_base 1 (some .int) :: ev_big)
abbrev em_246 : ev_M := (yX9_slotAt, RX9, cX9_slotAt, 2, (some .int), .code yX9_slotAt cX9_slotAt 2 (some .int) :: ev_big)
abbrev em_247 : ev_M := (yX9_setSlot, RX9, cX9_setSlot, 4, none, .code yX9_setSlot cX9_setSlot 4 none :: ev_big)
abbrev em_248 : ev_M := (yX9_slot, RX9, cX9_slot, 3, (some .int), .code yX9_slot cX9_slot 3 (some .int) :: ev_big)
abbrev em_249 : ev_M := (yX9_goBehind, RX9, cX9_goBehind, 2, none, .code yX9_goBehind cX9_goBehind 2 none :: ev_big)
abbrev em_250 : ev_M := (yX9_goInto, RX9, cX9_goInto, 2, none, .code yX9_goInto cX9_goInto 2 none :: ev_big)
abbrev em_251 : ev_M := (yX9_end, RX9, cX9_end, 2, none, .code yX9_end cX9_end 2 none :: ev_big)
abbrev em_252 : ev_M := (yX10_isSameFormals, RX10, cX10_isSameFormals, 4, (some .boolean), .code yX10_isSameFormals cX10_isSameFormals 4 (some .boolean) :: ev_big)
abbrev em_253 : ev_M := (yX10_member, RX10, cX10_member, 8, (some (.object "LevelUnits$Decl")), .code yX10_member cX10_member 8 (some (.object "LevelUnits$Decl")) :: ev_big)
abbrev em_254 : ev_M := (yX10_fault, RX10, cX10_fault, 3, none, .code yX10_fault cX10_fault 3 none :: ev_big)
abbrev em_255 : ev_M := (yX10_judgeTold, RX10, cX10_judgeTold, 2, none, .code yX10_judgeTold cX10_judgeTold 2 none :: ev_big)
abbrev em_256 : ev_M := (yX10_holdsItself, RX10, cX10_holdsItself, 7, (some .boolean), .code yX10_holdsItself cX10_holdsItself 7 (some .boolean) :: ev_big)
abbrev em_257 : ev_M := (yX10_isFitting, RX10, cX10_isFitting, 7, (some .boolean), .code yX10_isFitting cX10_isFitting 7 (some .boolean) :: ev_big)
abbrev em_258 : ev_M := (yX10_layOutCall, RX10, cX10_layOutCall, 3, none, .code yX10_layOutCall cX10_layOutCall 3 none :: ev_big)
abbrev em_259 : ev_M := (yX11_count, RX11, cX11_count, 2, (some .int), .code yX11_count cX11_count 2 (some .int) :: ev_big)
abbrev em_260 : ev_M := (yX11_isReference, RX11, cX11_isReference, 1, (some .boolean), .code yX11_isReference cX11_isReference 1 (some .boolean) :: ev_big)
abbrev em_261 : ev_M := (yX11_begin, RX11, cX11_begin, 2, none, .code yX11_begin cX11_begin 2 none :: ev_big)
abbrev em_262 : ev_M := (yX11_run, RX11, cX11_run, 3, (some .int), .code yX11_run cX11_run 3 (some .int) :: ev_big)
abbrev em_263 : ev_M := (yX11_output, RX11, cX11_output, 2, (some .int), .code yX11_output cX11_output 2 (some .int) :: ev_big)
abbrev em_264 : ev_M := (yX11_cell, RX11, cX11_cell, 2, (some .int), .code yX11_cell cX11_cell 2 (some .int) :: ev_big)
abbrev em_265 : ev_M := (yX11_thread, RX11, cX11_thread, 3, (some .int), .code yX11_thread cX11_thread 3 (some .int) :: ev_big)
abbrev em_266 : ev_M := (yX11_thing, RX11, cX11_thing, 3, (some .int), .code yX11_thing cX11_thing 3 (some .int) :: ev_big)
abbrev em_267 : ev_M := (yX11_inside, RX11, cX11_inside, 3, (some .int), .code yX11_inside cX11_inside 3 (some .int) :: ev_big)
abbrev em_268 : ev_M := (yX11_handlerOf, RX11, cX11_handlerOf, 3, (some (.object "LevelUnits$Stat")), .code yX11_handlerOf cX11_handlerOf 3 (some (.object "LevelUnits$Stat")) :: ev_big)
abbrev em_269 : ev_M := (yX12_init, RX12, cX12_init, 1, none, .code yX12_init cX12_init 1 none :: ev_big)
abbrev em_270 : ev_M := (yX13_init, RX13, cX13_init, 1, none, .code yX13_init cX13_init 1 none :: ev_big)
abbrev em_271 : ev_M := (yX13_fails, RX13, cX13_fails, 3, (some .boolean), .code yX13_fails cX13_fails 3 (some .boolean) :: ev_big)
abbrev em_272 : ev_M := (yX13_in, RX13, cX13_in, 3, (some .boolean), .code yX13_in cX13_in 3 (some .boolean) :: ev_big)
abbrev em_273 : ev_M := (yX13_feed, RX13, cX13_feed, 6, (some .int), .code yX13_feed cX13_feed 6 (some .int) :: ev_big)
abbrev em_274 : ev_M := (yX13_four, RX13, cX13_four, 3, none, .code yX13_four cX13_four 3 none :: ev_big)
abbrev em_275 : ev_M := (yX13_back, RX13, cX13_back, 2, (some .int), .code yX13_back cX13_back 2 (some .int) :: ev_big)
abbrev em_276 : ev_M := (yX13_see, RX13, cX13_see, 2, (some .int), .code yX13_see cX13_see 2 (some .int) :: ev_big)
abbrev em_277 : ev_M := (yX13_isLetter, RX13, cX13_isLetter, 1, (some .boolean), .code yX13_isLetter cX13_isLetter 1 (some .boolean) :: ev_big)
abbrev em_278 : ev_M := (yX13_isDigit, RX13, cX13_isDigit, 1, (some .boolean), .code yX13_isDigit cX13_isDigit 1 (some .boolean) :: ev_big)
abbrev em_279 : ev_M := (yX13_isNamed, RX13, cX13_isNamed, 1, (some .boolean), .code yX13_isNamed cX13_isNamed 1 (some .boolean) :: ev_big)
abbrev em_280 : ev_M := (yX13_nameOf, RX13, cX13_nameOf, 5, (some .int), .code yX13_nameOf cX13_nameOf 5 (some .int) :: ev_big)
abbrev em_281 : ev_M := (yX13_knowWords, RX13, cX13_knowWords, 4, none, .code yX13_knowWords cX13_knowWords 4 none :: ev_big)
abbrev em_282 : ev_M := (yX13_token, RX13, cX13_token, 4, none, .code yX13_token cX13_token 4 none :: ev_big)
abbrev em_283 : ev_M := (yX13_passes, RX13, cX13_passes, 2, (some .boolean), .code yX13_passes cX13_passes 2 (some .boolean) :: ev_big)
abbrev em_284 : ev_M := (yX13_note, RX13, cX13_note, 7, (some .boolean), .code yX13_note cX13_note 7 (some .boolean) :: ev_big)
abbrev em_285 : ev_M := (yX13_cut, RX13, cX13_cut, 2, none, .code yX13_cut cX13_cut 2 none :: ev_big)
abbrev em_286 : ev_M := (yX13_one, RX13, cX13_one, 6, (some .boolean), .code yX13_one cX13_one 6 (some .boolean) :: ev_big)
abbrev em_287 : ev_M := (yX13_twoOf, RX13, cX13_twoOf, 2, (some .int), .code yX13_twoOf cX13_twoOf 2 (some .int) :: ev_big)
abbrev em_288 : ev_M := (yX13_oneOf, RX13, cX13_oneOf, 1, (some .int), .code yX13_oneOf cX13_oneOf 1 (some .int) :: ev_big)
abbrev em_289 : ev_M := (yX13_first, RX13, cX13_first, 3, none, .code yX13_first cX13_first 3 none :: ev_big)
abbrev em_290 : ev_M := (yX13_rule, RX13, cX13_rule, 3, none, .code yX13_rule cX13_rule 3 none :: ev_big)
abbrev em_291 : ev_M := (yX13_line, RX13, cX13_line, 1, (some .int), .code yX13_line cX13_line 1 (some .int) :: ev_big)
abbrev em_292 : ev_M := (yX13_node, RX13, cX13_node, 5, (some .int), .code yX13_node cX13_node 5 (some .int) :: ev_big)
abbrev em_293 : ev_M := (yX13_look, RX13, cX13_look, 1, none, .code yX13_look cX13_look 1 none :: ev_big)
abbrev em_294 : ev_M := (yX13_next, RX13, cX13_next, 1, none, .code yX13_next cX13_next 1 none :: ev_big)
abbrev em_295 : ev_M := (yX13_unfit, RX13, cX13_unfit, 1, none, .code yX13_unfit cX13_unfit 1 none :: ev_big)
abbrev em_296 : ev_M := (yX13_is, RX13, cX13_is, 2, (some .boolean), .code yX13_is cX13_is 2 (some .boolean) :: ev_big)
abbrev em_297 : ev_M := (yX13_expect, RX13, cX13_expect, 2, none, .code yX13_expect cX13_expect 2 none :: ev_big)
abbrev em_298 : ev_M := (yX13_name, RX13, cX13_name, 2, (some .int), .code yX13_name cX13_name 2 (some .int) :: ev_big)
abbrev em_299 : ev_M := (yX13_open, RX13, cX13_open, 2, none, .code yX13_open cX13_open 2 none :: ev_big)
abbrev em_300 : ev_M := (yX13_close, RX13, cX13_close, 2, none, .code yX13_close cX13_close 2 none :: ev_big)
abbrev em_301 : ev_M := (yX13_parse, RX13, cX13_parse, 2, none, .code yX13_parse cX13_parse 2 none :: ev_big)
abbrev em_302 : ev_M := (yX13_parseUnit, RX13, cX13_parseUnit, 6, none, .code yX13_parseUnit cX13_parseUnit 6 none :: ev_big)
abbrev em_303 : ev_M := (yX13_endName, RX13, cX13_endName, 2, none, .code yX13_endName cX13_endName 2 none :: ev_big)
abbrev em_304 : ev_M := (yX13_nameRow, RX13, cX13_nameRow, 5, (some .int), .code yX13_nameRow cX13_nameRow 5 (some .int) :: ev_big)
abbrev em_305 : ev_M := (yX13_qname, RX13, cX13_qname, 2, (some .int), .code yX13_qname cX13_qname 2 (some .int) :: ev_big)
abbrev em_306 : ev_M := (yX13_declaration, RX13, cX13_declaration, 3, (some .int), .code yX13_declaration cX13_declaration 3 (some .int) :: ev_big)
abbrev em_307 : ev_M := (yX13_variables, RX13, cX13_variables, 2, none, .code yX13_variables cX13_variables 2 none :: ev_big)
abbrev em_308 : ev_M := (yX13_procedure, RX13, cX13_procedure, 6, none, .code yX13_procedure cX13_procedure 6 none :: ev_big)
abbrev em_309 : ev_M := (yX13_signature, RX13, cX13_signature, 11, (some .int), .code yX13_signature cX13_signature 11 (some .int) :: ev_big)
abbrev em_310 : ev_M := (yX13_qnames, RX13, cX13_qnames, 4, (some .int), .code yX13_qnames cX13_qnames 4 (some .int) :: ev_big)
abbrev em_311 : ev_M := (yX13_beginsType, RX13, cX13_beginsType, 1, (some .boolean), .code yX13_beginsType cX13_beginsType 1 (some .boolean) :: ev_big)
abbrev em_312 : ev_M := (yX13_type, RX13, cX13_type, 2, (some .int), .code yX13_type cX13_type 2 (some .int) :: ev_big)
abbrev em_313 : ev_M := (yX13_levelAlone, RX13, cX13_levelAlone, 2, (some .int), .code yX13_levelAlone cX13_levelAlone 2 (some .int) :: ev_big)
abbrev em_314 : ev_M := (yX13_bound, RX13, cX13_bound, 3, (some .int), .code yX13_bound cX13_bound 3 (some .int) :: ev_big)
abbrev em_315 : ev_M := (yX13_bounds, RX13, cX13_bounds, 2, none, .code yX13_bounds cX13_bounds 2 none :: ev_big)
abbrev em_316 : ev_M := (yX13_typeInside, RX13, cX13_typeInside, 3, (some .int), .code yX13_typeInside cX13_typeInside 3 (some .int) :: ev_big)
abbrev em_317 : ev_M := (yX13_fields, RX13, cX13_fields, 7, (some .int), .code yX13_fields cX13_fields 7 (some .int) :: ev_big)
abbrev em_318 : ev_M := (yX13_level, RX13, cX13_level, 4, (some .int), .code yX13_level cX13_level 4 (some .int) :: ev_big)
abbrev em_319 : ev_M := (yX13_members, RX13, cX13_members, 5, (some .int), .code yX13_members cX13_members 5 (some .int) :: ev_big)
abbrev em_320 : ev_M := (yX13_beginsStatement, RX13, cX13_beginsStatement, 1, (some .boolean), .code yX13_beginsStatement cX13_beginsStatement 1 (some .boolean) :: ev_big)
abbrev em_321 : ev_M := (yX13_statements, RX13, cX13_statements, 5, (some .int), .code yX13_statements cX13_statements 5 (some .int) :: ev_big)
abbrev em_322 : ev_M := (yX13_statement, RX13, cX13_statement, 3, (some .int), .code yX13_statement cX13_statement 3 (some .int) :: ev_big)
abbrev em_323 : ev_M := (yX13_arms, RX13, cX13_arms, 6, (some .int), .code yX13_arms cX13_arms 6 (some .int) :: ev_big)
abbrev em_324 : ev_M := (yX13_forStatement, RX13, cX13_forStatement, 2, none, .code yX13_forStatement cX13_forStatement 2 none :: ev_big)
abbrev em_325 : ev_M := (yX13_tryStatement, RX13, cX13_tryStatement, 2, none, .code yX13_tryStatement cX13_tryStatement 2 none :: ev_big)
abbrev em_326 : ev_M := (yX13_otherwise, RX13, cX13_otherwise, 2, none, .code yX13_otherwise cX13_otherwise 2 none :: ev_big)
abbrev em_327 : ev_M := (yX13_typecase, RX13, cX13_typecase, 2, none, .code yX13_typecase cX13_typecase 2 none :: ev_big)
abbrev em_328 : ev_M := (yX13_cases, RX13, cX13_cases, 5, (some .int), .code yX13_cases cX13_cases 5 (some .int) :: ev_big)
abbrev em_329 : ev_M := (yX13_byPlace, RX13, cX13_byPlace, 4, none, .code yX13_byPlace cX13_byPlace 4 none :: ev_big)
abbrev em_330 : ev_M := (yX13_call, RX13, cX13_call, 5, (some .int), .code yX13_call cX13_call 5 (some .int) :: ev_big)
abbrev em_331 : ev_M := (yX13_place, RX13, cX13_place, 5, (some .int), .code yX13_place cX13_place 5 (some .int) :: ev_big)
abbrev em_332 : ev_M := (yX13_expression, RX13, cX13_expression, 1, (some .int), .code yX13_expression cX13_expression 1 (some .int) :: ev_big)
abbrev em_333 : ev_M := (yX13_joins, RX13, cX13_joins, 2, (some .boolean), .code yX13_joins cX13_joins 2 (some .boolean) :: ev_big)
abbrev em_334 : ev_M := (yX13_operand, RX13, cX13_operand, 2, (some .int), .code yX13_operand cX13_operand 2 (some .int) :: ev_big)
abbrev em_335 : ev_M := (yX13_chain, RX13, cX13_chain, 6, (some .int), .code yX13_chain cX13_chain 6 (some .int) :: ev_big)
abbrev em_336 : ev_M := (yX13_not, RX13, cX13_not, 2, (some .int), .code yX13_not cX13_not 2 (some .int) :: ev_big)
abbrev em_337 : ev_M := (yX13_relation, RX13, cX13_relation, 3, (some .int), .code yX13_relation cX13_relation 3 (some .int) :: ev_big)
abbrev em_338 : ev_M := (yX13_minus, RX13, cX13_minus, 2, (some .int), .code yX13_minus cX13_minus 2 (some .int) :: ev_big)
abbrev em_339 : ev_M := (yX13_simple, RX13, cX13_simple, 3, (some .int), .code yX13_simple cX13_simple 3 (some .int) :: ev_big)
abbrev em_340 : ev_M := (yX13_symbol, RX13, cX13_symbol, 5, none, .code yX13_symbol cX13_symbol 5 none :: ev_big)
abbrev em_341 : ev_M := (yX13_variable, RX13, cX13_variable, 3, (some .int), .code yX13_variable cX13_variable 3 (some .int) :: ev_big)
abbrev em_342 : ev_M := (yX13_findIn, RX13, cX13_findIn, 5, (some .int), .code yX13_findIn cX13_findIn 5 (some .int) :: ev_big)
abbrev em_343 : ev_M := (yX13_find, RX13, cX13_find, 4, (some .int), .code yX13_find cX13_find 4 (some .int) :: ev_big)
abbrev em_344 : ev_M := (yX13_isThere, RX13, cX13_isThere, 5, (some .boolean), .code yX13_isThere cX13_isThere 5 (some .boolean) :: ev_big)
abbrev em_345 : ev_M := (yX13_declareAll, RX13, cX13_declareAll, 4, none, .code yX13_declareAll cX13_declareAll 4 none :: ev_big)
abbrev em_346 : ev_M := (yX13_imported, RX13, cX13_imported, 5, none, .code yX13_imported cX13_imported 5 none :: ev_big)
abbrev em_347 : ev_M := (yX13_declared, RX13, cX13_declared, 6, none, .code yX13_declared cX13_declared 6 none :: ev_big)
abbrev em_348 : ev_M := (yX13_tell, RX13, cX13_tell, 7, none, .code yX13_tell cX13_tell 7 none :: ev_big)
abbrev em_349 : ev_M := (yX13_nameRound, RX13, cX13_nameRound, 4, none, .code yX13_nameRound cX13_nameRound 4 none :: ev_big)
abbrev em_350 : ev_M := (yX13_qualified, RX13, cX13_qualified, 6, none, .code yX13_qualified cX13_qualified 6 none :: ev_big)
abbrev em_351 : ev_M := (yX13_nameType, RX13, cX13_nameType, 2, none, .code yX13_nameType cX13_nameType 2 none :: ev_big)
abbrev em_352 : ev_M := (yX13_again, RX13, cX13_again, 5, none, .code yX13_again cX13_again 5 none :: ev_big)
abbrev em_353 : ev_M := (yX13_nameFields, RX13, cX13_nameFields, 6, none, .code yX13_nameFields cX13_nameFields 6 none :: ev_big)
abbrev em_354 : ev_M := (yX13_nameMembers, RX13, cX13_nameMembers, 3, none, .code yX13_nameMembers cX13_nameMembers 3 none :: ev_big)
abbrev em_355 : ev_M := (yX13_nameSignature, RX13, cX13_nameSignature, 4, none, .code yX13_nameSignature cX13_nameSignature 4 none :: ev_big)
abbrev em_356 : ev_M := (yX13_nameDeclaration, RX13, cX13_nameDeclaration, 2, none, .code yX13_nameDeclaration cX13_nameDeclaration 2 none :: ev_big)
abbrev em_357 : ev_M := (yX13_nameBody, RX13, cX13_nameBody, 7, none, .code yX13_nameBody cX13_nameBody 7 none :: ev_big)
abbrev em_358 : ev_M := (yX13_see_, RX13, cX13_see_, 3, none, .code yX13_see_ cX13_see_ 3 none :: ev_big)
abbrev em_359 : ev_M := (yX13_nameStatements, RX13, cX13_nameStatements, 3, none, .code yX13_nameStatements cX13_nameStatements 3 none :: ev_big)
abbrev em_360 : ev_M := (yX13_nameStatement, RX13, cX13_nameStatement, 3, none, .code yX13_nameStatement cX13_nameStatement 3 none :: ev_big)
abbrev em_361 : ev_M := (yX13_within, RX13, cX13_within, 5, none, .code yX13_within cX13_within 5 none :: ev_big)
abbrev em_362 : ev_M := (yX13_nameE, RX13, cX13_nameE, 3, none, .code yX13_nameE cX13_nameE 3 none :: ev_big)
abbrev em_363 : ev_M := (yX13_namePlace, RX13, cX13_namePlace, 4, none, .code yX13_namePlace cX13_namePlace 4 none :: ev_big)
abbrev em_364 : ev_M := (yX13_declaration_, RX13, cX13_declaration_, 2, (some .int), .code yX13_declaration_ cX13_declaration_ 2 (some .int) :: ev_big)
abbrev em_365 : ev_M := (yX13_real, RX13, cX13_real, 5, (some .int), .code yX13_real cX13_real 5 (some .int) :: ev_big)
abbrev em_366 : ev_M := (yX13_firstOfRing, RX13, cX13_firstOfRing, 4, (some .int), .code yX13_firstOfRing cX13_firstOfRing 4 (some .int) :: ev_big)
abbrev em_367 : ev_M := (yX13_isObject, RX13, cX13_isObject, 2, (some .boolean), .code yX13_isObject cX13_isObject 2 (some .boolean) :: ev_big)
abbrev em_368 : ev_M := (yX13_isReference, RX13, cX13_isReference, 2, (some .boolean), .code yX13_isReference cX13_isReference 2 (some .boolean) :: ev_big)
abbrev em_369 : ev_M := (yX13_classOf, RX13, cX13_classOf, 3, (some .int), .code yX13_classOf cX13_classOf 3 (some .int) :: ev_big)
abbrev em_370 : ev_M := (yX13_pair, RX13, cX13_pair, 3, none, .code yX13_pair cX13_pair 3 none :: ev_big)
abbrev em_371 : ev_M := (yX13_areAlike, RX13, cX13_areAlike, 4, (some .boolean), .code yX13_areAlike cX13_areAlike 4 (some .boolean) :: ev_big)
abbrev em_372 : ev_M := (yX13_joins_, RX13, cX13_joins_, 3, (some .boolean), .code yX13_joins_ cX13_joins_ 3 (some .boolean) :: ev_big)
abbrev em_373 : ev_M := (yX13_partsPair, RX13, cX13_partsPair, 3, (some .boolean), .code yX13_partsPair cX13_partsPair 3 (some .boolean) :: ev_big)
abbrev em_374 : ev_M := (yX13_superOf, RX13, cX13_superOf, 2, (some .int), .code yX13_superOf cX13_superOf 2 (some .int) :: ev_big)
abbrev em_375 : ev_M := (yX13_fieldsPair, RX13, cX13_fieldsPair, 5, (some .boolean), .code yX13_fieldsPair cX13_fieldsPair 5 (some .boolean) :: ev_big)
abbrev em_376 : ev_M := (yX13_numberOf, RX13, cX13_numberOf, 2, (some .int), .code yX13_numberOf cX13_numberOf 2 (some .int) :: ev_big)
abbrev em_377 : ev_M := (yX13_methodsPair, RX13, cX13_methodsPair, 5, (some .boolean), .code yX13_methodsPair cX13_methodsPair 5 (some .boolean) :: ev_big)
abbrev em_378 : ev_M := (yX13_within_, RX13, cX13_within_, 6, (some .boolean), .code yX13_within_ cX13_within_ 6 (some .boolean) :: ev_big)
abbrev em_379 : ev_M := (yX13_signaturesPair, RX13, cX13_signaturesPair, 7, (some .boolean), .code yX13_signaturesPair cX13_signaturesPair 7 (some .boolean) :: ev_big)
abbrev em_380 : ev_M := (yX13_hasException, RX13, cX13_hasException, 4, (some .boolean), .code yX13_hasException cX13_hasException 4 (some .boolean) :: ev_big)
abbrev em_381 : ev_M := (yX13_setWithin, RX13, cX13_setWithin, 4, (some .boolean), .code yX13_setWithin cX13_setWithin 4 (some .boolean) :: ev_big)
abbrev em_382 : ev_M := (yX13_sameSets, RX13, cX13_sameSets, 3, (some .boolean), .code yX13_sameSets cX13_sameSets 3 (some .boolean) :: ev_big)
abbrev em_383 : ev_M := (yX13_alikeFrom, RX13, cX13_alikeFrom, 6, (some .boolean), .code yX13_alikeFrom cX13_alikeFrom 6 (some .boolean) :: ev_big)
abbrev em_384 : ev_M := (yX13_seesNode, RX13, cX13_seesNode, 6, (some .boolean), .code yX13_seesNode cX13_seesNode 6 (some .boolean) :: ev_big)
abbrev em_385 : ev_M := (yX13_wholeAbove, RX13, cX13_wholeAbove, 2, (some .int), .code yX13_wholeAbove cX13_wholeAbove 2 (some .int) :: ev_big)
abbrev em_386 : ev_M := (yX13_wholeChain, RX13, cX13_wholeChain, 3, none, .code yX13_wholeChain cX13_wholeChain 3 none :: ev_big)
abbrev em_387 : ev_M := (yX13_placeIn, RX13, cX13_placeIn, 4, (some .int), .code yX13_placeIn cX13_placeIn 4 (some .int) :: ev_big)
abbrev em_388 : ev_M := (yX13_above, RX13, cX13_above, 8, (some .int), .code yX13_above cX13_above 8 (some .int) :: ev_big)
abbrev em_389 : ev_M := (yX13_opaqueOf, RX13, cX13_opaqueOf, 4, (some .int), .code yX13_opaqueOf cX13_opaqueOf 4 (some .int) :: ev_big)
abbrev em_390 : ev_M := (yX13_isBelow, RX13, cX13_isBelow, 7, (some .boolean), .code yX13_isBelow cX13_isBelow 7 (some .boolean) :: ev_big)
abbrev em_391 : ev_M := (yX13_memberOf, RX13, cX13_memberOf, 7, (some .int), .code yX13_memberOf cX13_memberOf 7 (some .int) :: ev_big)
abbrev em_392 : ev_M := (yX13_levelOf, RX13, cX13_levelOf, 2, (some .int), .code yX13_levelOf cX13_levelOf 2 (some .int) :: ev_big)
abbrev em_393 : ev_M := (yX13_cellsOf, RX13, cX13_cellsOf, 9, (some .int), .code yX13_cellsOf cX13_cellsOf 9 (some .int) :: ev_big)
abbrev em_394 : ev_M := (yX13_typeRound, RX13, cX13_typeRound, 3, none, .code yX13_typeRound cX13_typeRound 3 none :: ev_big)
abbrev em_395 : ev_M := (yX13_revealed, RX13, cX13_revealed, 3, none, .code yX13_revealed cX13_revealed 3 none :: ev_big)
abbrev em_396 : ev_M := (yX13_rings, RX13, cX13_rings, 4, none, .code yX13_rings cX13_rings 4 none :: ev_big)
abbrev em_397 : ev_M := (yX13_holds, RX13, cX13_holds, 5, (some .boolean), .code yX13_holds cX13_holds 5 (some .boolean) :: ev_big)
abbrev em_398 : ev_M := (yX13_goesTo, RX13, cX13_goesTo, 3, (some .int), .code yX13_goesTo cX13_goesTo 3 (some .int) :: ev_big)
abbrev em_399 : ev_M := (yX13_bounds_, RX13, cX13_bounds_, 5, none, .code yX13_bounds_ cX13_bounds_ 5 none :: ev_big)
abbrev em_400 : ev_M := (yX13_typeDeclaration, RX13, cX13_typeDeclaration, 4, none, .code yX13_typeDeclaration cX13_typeDeclaration 4 none :: ev_big)
abbrev em_401 : ev_M := (yX13_alikeSignatures, RX13, cX13_alikeSignatures, 3, (some .boolean), .code yX13_alikeSignatures cX13_alikeSignatures 3 (some .boolean) :: ev_big)
abbrev em_402 : ev_M := (yX13_tells, RX13, cX13_tells, 4, none, .code yX13_tells cX13_tells 4 none :: ev_big)
abbrev em_403 : ev_M := (yX13_memberRound, RX13, cX13_memberRound, 6, none, .code yX13_memberRound cX13_memberRound 6 none :: ev_big)
abbrev em_404 : ev_M := (yX13_signatureOf, RX13, cX13_signatureOf, 2, (some .int), .code yX13_signatureOf cX13_signatureOf 2 (some .int) :: ev_big)
abbrev em_405 : ev_M := (yX13_fits, RX13, cX13_fits, 7, (some .boolean), .code yX13_fits cX13_fits 7 (some .boolean) :: ev_big)
abbrev em_406 : ev_M := (yX13_statementRound, RX13, cX13_statementRound, 4, none, .code yX13_statementRound cX13_statementRound 4 none :: ev_big)
abbrev em_407 : ev_M := (yX13_isInteger, RX13, cX13_isInteger, 2, (some .boolean), .code yX13_isInteger cX13_isInteger 2 (some .boolean) :: ev_big)
abbrev em_408 : ev_M := (yX13_isKind, RX13, cX13_isKind, 3, (some .boolean), .code yX13_isKind cX13_isKind 3 (some .boolean) :: ev_big)
abbrev em_409 : ev_M := (yX13_wrong, RX13, cX13_wrong, 3, (some .int), .code yX13_wrong cX13_wrong 3 (some .int) :: ev_big)
abbrev em_410 : ev_M := (yX13_checkRow, RX13, cX13_checkRow, 3, none, .code yX13_checkRow cX13_checkRow 3 none :: ev_big)
abbrev em_411 : ev_M := (yX13_wanted, RX13, cX13_wanted, 5, none, .code yX13_wanted cX13_wanted 5 none :: ev_big)
abbrev em_412 : ev_M := (yX13_check, RX13, cX13_check, 5, none, .code yX13_check cX13_check 5 none :: ev_big)
abbrev em_413 : ev_M := (yX13_inLoop, RX13, cX13_inLoop, 2, none, .code yX13_inLoop cX13_inLoop 2 none :: ev_big)
abbrev em_414 : ev_M := (yX13_returns, RX13, cX13_returns, 4, none, .code yX13_returns cX13_returns 4 none :: ev_big)
abbrev em_415 : ev_M := (yX13_typecaseCheck, RX13, cX13_typecaseCheck, 4, none, .code yX13_typecaseCheck cX13_typecaseCheck 4 none :: ev_big)
abbrev em_416 : ev_M := (yX13_objects, RX13, cX13_objects, 6, (some .boolean), .code yX13_objects cX13_objects 6 (some .boolean) :: ev_big)
abbrev em_417 : ev_M := (yX13_assignable, RX13, cX13_assignable, 4, (some .boolean), .code yX13_assignable cX13_assignable 4 (some .boolean) :: ev_big)
abbrev em_418 : ev_M := (yX13_target, RX13, cX13_target, 4, (some .int), .code yX13_target cX13_target 4 (some .int) :: ev_big)
abbrev em_419 : ev_M := (yX13_typePlace, RX13, cX13_typePlace, 6, (some .int), .code yX13_typePlace cX13_typePlace 6 (some .int) :: ev_big)
abbrev em_420 : ev_M := (yX13_typeDot, RX13, cX13_typeDot, 8, (some .int), .code yX13_typeDot cX13_typeDot 8 (some .int) :: ev_big)
abbrev em_421 : ev_M := (yX13_offsetIn, RX13, cX13_offsetIn, 5, (some .int), .code yX13_offsetIn cX13_offsetIn 5 (some .int) :: ev_big)
abbrev em_422 : ev_M := (yX13_fieldCells, RX13, cX13_fieldCells, 5, (some .int), .code yX13_fieldCells cX13_fieldCells 5 (some .int) :: ev_big)
abbrev em_423 : ev_M := (yX13_cellsAbove, RX13, cX13_cellsAbove, 4, (some .int), .code yX13_cellsAbove cX13_cellsAbove 4 (some .int) :: ev_big)
abbrev em_424 : ev_M := (yX13_calls, RX13, cX13_calls, 9, none, .code yX13_calls cX13_calls 9 none :: ev_big)
abbrev em_425 : ev_M := (yX13_parameters, RX13, cX13_parameters, 10, none, .code yX13_parameters cX13_parameters 10 none :: ev_big)
abbrev em_426 : ev_M := (yX13_typeE, RX13, cX13_typeE, 3, (some .int), .code yX13_typeE cX13_typeE 3 (some .int) :: ev_big)
abbrev em_427 : ev_M := (yX13_typeInE, RX13, cX13_typeInE, 5, (some .int), .code yX13_typeInE cX13_typeInE 5 (some .int) :: ev_big)
abbrev em_428 : ev_M := (yX13_chained, RX13, cX13_chained, 6, (some .int), .code yX13_chained cX13_chained 6 (some .int) :: ev_big)
abbrev em_429 : ev_M := (yX13_relationType, RX13, cX13_relationType, 7, (some .int), .code yX13_relationType cX13_relationType 7 (some .int) :: ev_big)
abbrev em_430 : ev_M := (yX13_exceptionRound, RX13, cX13_exceptionRound, 4, none, .code yX13_exceptionRound cX13_exceptionRound 4 none :: ev_big)
abbrev em_431 : ev_M := (yX13_handlerOf, RX13, cX13_handlerOf, 4, (some .int), .code yX13_handlerOf cX13_handlerOf 4 (some .int) :: ev_big)
abbrev em_432 : ev_M := (yX13_leaves, RX13, cX13_leaves, 4, none, .code yX13_leaves cX13_leaves 4 none :: ev_big)
abbrev em_433 : ev_M := (yX13_leaveRow, RX13, cX13_leaveRow, 3, none, .code yX13_leaveRow cX13_leaveRow 3 none :: ev_big)
abbrev em_434 : ev_M := (yX13_leaveStatement, RX13, cX13_leaveStatement, 3, none, .code yX13_leaveStatement cX13_leaveStatement 3 none :: ev_big)
abbrev em_435 : ev_M := (yX13_layOut, RX13, cX13_layOut, 6, none, .code yX13_layOut cX13_layOut 6 none :: ev_big)
abbrev em_436 : ev_M := (yX13_layName, RX13, cX13_layName, 4, none, .code yX13_layName cX13_layName 4 none :: ev_big)
abbrev em_437 : ev_M := (yX13_layRow, RX13, cX13_layRow, 5, none, .code yX13_layRow cX13_layRow 5 none :: ev_big)
abbrev em_438 : ev_M := (yX13_read, RX13, cX13_read, 2, (some .int), .codeWith yX13_read cX13_read 2 (some .int) [(65, 105, 108, 7)] :: ev_big)
abbrev em_439 : ev_M := (yX13_isTold, RX13, cX13_isTold, 2, (some .boolean), .code yX13_isTold cX13_isTold 2 (some .boolean) :: ev_big)
abbrev em_440 : ev_M := (yX13_toldType, RX13, cX13_toldType, 3, (some .int), .code yX13_toldType cX13_toldType 3 (some .int) :: ev_big)
abbrev em_441 : ev_M := (yX13_alike, RX13, cX13_alike, 3, (some .int), .code yX13_alike cX13_alike 3 (some .int) :: ev_big)
abbrev em_442 : ev_M := (yX13_below, RX13, cX13_below, 4, (some .int), .code yX13_below cX13_below 4 (some .int) :: ev_big)
abbrev em_443 : ev_M := (yX13_leastAlike, RX13, cX13_leastAlike, 3, (some .int), .code yX13_leastAlike cX13_leastAlike 3 (some .int) :: ev_big)
abbrev em_444 : ev_M := (yX13_type_, RX13, cX13_type_, 5, (some .int), .code yX13_type_ cX13_type_ 5 (some .int) :: ev_big)
abbrev em_445 : ev_M := (yX13_sees, RX13, cX13_sees, 5, (some .int), .code yX13_sees cX13_sees 5 (some .int) :: ev_big)
abbrev em_446 : ev_M := (yX13_fail, RX13, cX13_fail, 2, none, .code yX13_fail cX13_fail 2 none :: ev_big)
abbrev em_447 : ev_M := (yX13_entry, RX13, cX13_entry, 1, (some .int), .code yX13_entry cX13_entry 1 (some .int) :: ev_big)
abbrev em_448 : ev_M := (yX13_push, RX13, cX13_push, 8, none, .code yX13_push cX13_push 8 none :: ev_big)
abbrev em_449 : ev_M := (yX13_row, RX13, cX13_row, 2, none, .code yX13_row cX13_row 2 none :: ev_big)
abbrev em_450 : ev_M := (yX13_pop, RX13, cX13_pop, 1, none, .code yX13_pop cX13_pop 1 none :: ev_big)
abbrev em_451 : ev_M := (yX13_initial, RX13, cX13_initial, 2, (some .int), .code yX13_initial cX13_initial 2 (some .int) :: ev_big)
abbrev em_452 : ev_M := (yX13_clear, RX13, cX13_clear, 7, (some .int), .code yX13_clear cX13_clear 7 (some .int) :: ev_big)
abbrev em_453 : ev_M := (yX13_clearFields, RX13, cX13_clearFields, 5, (some .int), .code yX13_clearFields cX13_clearFields 5 (some .int) :: ev_big)
abbrev em_454 : ev_M := (yX13_isOf, RX13, cX13_isOf, 4, (some .boolean), .code yX13_isOf cX13_isOf 4 (some .boolean) :: ev_big)
abbrev em_455 : ev_M := (yX13_held, RX13, cX13_held, 3, none, .code yX13_held cX13_held 3 none :: ev_big)
abbrev em_456 : ev_M := (yX13_place_, RX13, cX13_place_, 4, (some .int), .code yX13_place_ cX13_place_ 4 (some .int) :: ev_big)
abbrev em_457 : ev_M := (yX13_behind, RX13, cX13_behind, 8, (some .int), .code yX13_behind cX13_behind 8 (some .int) :: ev_big)
abbrev em_458 : ev_M := (yX13_isWide, RX13, cX13_isWide, 2, (some .boolean), .code yX13_isWide cX13_isWide 2 (some .boolean) :: ev_big)
abbrev em_459 : ev_M := (yX13_eval, RX13, cX13_eval, 4, (some .int), .code yX13_eval cX13_eval 4 (some .int) :: ev_big)
abbrev em_460 : ev_M := (yX13_related, RX13, cX13_related, 3, (some .boolean), .code yX13_related cX13_related 3 (some .boolean) :: ev_big)
abbrev em_461 : ev_M := (yX13_reckon, RX13, cX13_reckon, 6, (some .int), .code yX13_reckon cX13_reckon 6 (some .int) :: ev_big)
abbrev em_462 : ev_M := (yX13_create, RX13, cX13_create, 5, (some .int), .code yX13_create cX13_create 5 (some .int) :: ev_big)
abbrev em_463 : ev_M := (yX13_clearObject, RX13, cX13_clearObject, 6, none, .code yX13_clearObject cX13_clearObject 6 none :: ev_big)
abbrev em_464 : ev_M := (yX13_begins, RX13, cX13_begins, 9, none, .code yX13_begins cX13_begins 9 none :: ev_big)
abbrev em_465 : ev_M := (yX13_methodPlace, RX13, cX13_methodPlace, 5, (some .int), .code yX13_methodPlace cX13_methodPlace 5 (some .int) :: ev_big)
abbrev em_466 : ev_M := (yX13_parameter, RX13, cX13_parameter, 4, (some .int), .code yX13_parameter cX13_parameter 4 (some .int) :: ev_big)
abbrev em_467 : ev_M := (yX13_methodOf, RX13, cX13_methodOf, 7, (some .int), .code yX13_methodOf cX13_methodOf 7 (some .int) :: ev_big)
abbrev em_468 : ev_M := (yX13_enter, RX13, cX13_enter, 4, none, .code yX13_enter cX13_enter 4 none :: ev_big)
abbrev em_469 : ev_M := (yX13_frame, RX13, cX13_frame, 7, none, .code yX13_frame cX13_frame 7 none :: ev_big)
abbrev em_470 : ev_M := (yX13_fork, RX13, cX13_fork, 6, none, .code yX13_fork cX13_fork 6 none :: ev_big)
abbrev em_471 : ev_M := (yX13_makeRoom, RX13, cX13_makeRoom, 3, none, .code yX13_makeRoom cX13_makeRoom 3 none :: ev_big)
abbrev em_472 : ev_M := (yX13_empty, RX13, cX13_empty, 2, none, .code yX13_empty cX13_empty 2 none :: ev_big)
abbrev em_473 : ev_M := (yX13_nextStatement, RX13, cX13_nextStatement, 2, none, .code yX13_nextStatement cX13_nextStatement 2 none :: ev_big)
abbrev em_474 : ev_M := (yX13_leaveCall, RX13, cX13_leaveCall, 3, (some .int), .code yX13_leaveCall cX13_leaveCall 3 (some .int) :: ev_big)
abbrev em_475 : ev_M := (yX13_release, RX13, cX13_release, 2, none, .code yX13_release cX13_release 2 none :: ev_big)
abbrev em_476 : ev_M := (yX13_leave, RX13, cX13_leave, 9, none, .code yX13_leave cX13_leave 9 none :: ev_big)
abbrev em_477 : ev_M := (yX13_catches, RX13, cX13_catches, 5, (some .boolean), .code yX13_catches cX13_catches 5 (some .boolean) :: ev_big)
abbrev em_478 : ev_M := (yX13_returned, RX13, cX13_returned, 5, none, .code yX13_returned cX13_returned 5 none :: ev_big)
abbrev em_479 : ev_M := (yX13_ends, RX13, cX13_ends, 5, none, .code yX13_ends cX13_ends 5 none :: ev_big)
abbrev em_480 : ev_M := (yX13_goesOn, RX13, cX13_goesOn, 2, none, .codeWith yX13_goesOn cX13_goesOn 2 none [(0, 26, 29, 7)] :: ev_big)
abbrev em_481 : ev_M := (yX13_isAhead, RX13, cX13_isAhead, 4, (some .boolean), .code yX13_isAhead cX13_isAhead 4 (some .boolean) :: ev_big)
abbrev em_482 : ev_M := (yX13_further, RX13, cX13_further, 6, none, .code yX13_further cX13_further 6 none :: ev_big)
abbrev em_483 : ev_M := (yX13_isReady, RX13, cX13_isReady, 2, (some .boolean), .code yX13_isReady cX13_isReady 2 (some .boolean) :: ev_big)
abbrev em_484 : ev_M := (yX13_ready, RX13, cX13_ready, 3, (some .int), .code yX13_ready cX13_ready 3 (some .int) :: ev_big)
abbrev em_485 : ev_M := (yX13_begin, RX13, cX13_begin, 6, none, .code yX13_begin cX13_begin 6 none :: ev_big)
abbrev em_486 : ev_M := (yX13_run, RX13, cX13_run, 5, (some .int), .code yX13_run cX13_run 5 (some .int) :: ev_big)
abbrev em_487 : ev_M := (yX13_step, RX13, cX13_step, 4, none, .codeWith yX13_step cX13_step 4 none [(24, 151, 154, 7)] :: ev_big)
abbrev em_488 : ev_M := (yX13_locked, RX13, cX13_locked, 3, none, .code yX13_locked cX13_locked 3 none :: ev_big)
abbrev em_489 : ev_M := (yX13_again_, RX13, cX13_again_, 3, none, .code yX13_again_ cX13_again_ 3 none :: ev_big)
abbrev em_490 : ev_M := (yX13_does, RX13, cX13_does, 4, none, .code yX13_does cX13_does 4 none :: ev_big)
abbrev em_491 : ev_M := (yX13_procedureOfCall, RX13, cX13_procedureOfCall, 2, (some .int), .code yX13_procedureOfCall cX13_procedureOfCall 2 (some .int) :: ev_big)
abbrev em_492 : ev_M := (yX13_assign, RX13, cX13_assign, 5, none, .code yX13_assign cX13_assign 5 none :: ev_big)
abbrev em_493 : ev_M := (yX13_there, RX13, cX13_there, 3, (some .int), .code yX13_there cX13_there 3 (some .int) :: ev_big)
abbrev em_494 : ev_M := (yX13_meets, RX13, cX13_meets, 4, none, .code yX13_meets cX13_meets 4 none :: ev_big)
abbrev em_495 : ev_M := (yX13_waits, RX13, cX13_waits, 4, none, .code yX13_waits cX13_waits 4 none :: ev_big)
abbrev em_496 : ev_M := (yX13_signal, RX13, cX13_signal, 6, none, .code yX13_signal cX13_signal 6 none :: ev_big)
abbrev em_497 : ev_M := (yX13_typecaseStep, RX13, cX13_typecaseStep, 5, none, .code yX13_typecaseStep cX13_typecaseStep 5 none :: ev_big)
abbrev em_498 : ev_M := (yX13_count, RX13, cX13_count, 4, (some .int), .code yX13_count cX13_count 4 (some .int) :: ev_big)
abbrev em_499 : ev_M := (yX13_counted, RX13, cX13_counted, 4, (some .int), .code yX13_counted cX13_counted 4 (some .int) :: ev_big)
abbrev em_500 : ev_M := (yX13_output, RX13, cX13_output, 2, (some .int), .code yX13_output cX13_output 2 (some .int) :: ev_big)
abbrev em_501 : ev_M := (yX13_cell, RX13, cX13_cell, 2, (some .int), .code yX13_cell cX13_cell 2 (some .int) :: ev_big)
abbrev em_502 : ev_M := (yX13_thread, RX13, cX13_thread, 5, (some .int), .code yX13_thread cX13_thread 5 (some .int) :: ev_big)
abbrev em_503 : ev_M := (yX13_thing, RX13, cX13_thing, 5, (some .int), .code yX13_thing cX13_thing 5 (some .int) :: ev_big)
abbrev em_504 : ev_M := (yX13_inside, RX13, cX13_inside, 3, (some .int), .code yX13_inside cX13_inside 3 (some .int) :: ev_big)
abbrev em_505 : ev_M := (yL_law, RL, cL_law, 7, (some .boolean), .code yL_law cL_law 7 (some .boolean) :: ev_big)
abbrev em_506 : ev_M := (yJ7_fill_fda19, RJ7, cJ7_fill_fda19, 5, none, .code yJ7_fill_fda19 cJ7_fill_fda19 5 none :: ev_big)
abbrev em_507 : ev_M := (yJ7_rangeCheck_23922, RJ7, cJ7_rangeCheck_23922, 3, none, .code yJ7_rangeCheck_23922 cJ7_rangeCheck_23922 3 none :: ev_big)
abbrev em_508 : ev_M := (yJ9_floorDiv_f86c9, RJ9, cJ9_floorDiv_f86c9, 6, (some .long), .code yJ9_floorDiv_f86c9 cJ9_floorDiv_f86c9 6 (some .long) :: ev_big)
abbrev em_509 : ev_M := (yJ9_floorMod_f86c9, RJ9, cJ9_floorMod_f86c9, 6, (some .long), .code yJ9_floorMod_f86c9 cJ9_floorMod_f86c9 6 (some .long) :: ev_big)
theorem ev_h12 : ∃ r : vw_C, vwCl[12]? = some r ∧ r.1 = "LevelUnitsModel$Stop" := ⟨_, rfl, rfl⟩
def ev_mP (x : ev_M × Option ev_H) : Prop := (∃ ws', x.1.2.2.2.2.2 = (match x.2 with
  | none => .code x.1.1 x.1.2.2.1 x.1.2.2.2.1 x.1.2.2.2.2.1
  | some h => .codeWith x.1.1 x.1.2.2.1 x.1.2.2.2.1 x.1.2.2.2.2.1 [h]) :: ws') ∧ plainFor x.1.1 = true ∧ x.1.2.1 = x.1.1.cls ∧ x.1.2.2.2.1 ≤ 40 ∧ ∀ h, x.2 = some h → h.2.2.2 ≠ 0 ∧ Cond.classLink x.1.2.1 h.2.2.2 "LevelUnitsModel$Stop" ∈ x.1.2.2.2.2.2
theorem ev_bm {P : ev_M × Option ev_H → Prop} {y z : ev_M × Option ev_H} (hy : P y) (hz : P z) : ∀ {c : Bool}, P (bif c then y else z)
  | true => hy
  | false => hz
theorem mok_0 : ev_mP (em_0, none) := ⟨⟨_, rfl⟩, plainFor_of_name (by decide), rfl, by decide, fun x h => by cases h⟩
theorem mok_1 : ev_mP (em_1, none) := ⟨⟨_, rfl⟩, plainFor_of_name (by decide), rfl, by decide, fun x h => by cases h⟩
theorem mok_2 : ev_mP (em_2, none) := ⟨⟨_, rfl⟩, plainFor_of_name (by decide), rfl, by decide, fun x h => by cases h⟩
theorem mok_3 : ev_mP (em_3, none) := ⟨⟨_, rfl⟩, plainFor_of_name (by decide), rfl, by decide, fun x h => by cases h⟩
theorem mok_4 : ev_mP (em_4, none) := ⟨⟨_, rfl⟩, plainFor_of_name (by decide), rfl, by decide, fun x h => by cases h⟩
theorem mok_5 : ev_mP (em_5, none) := ⟨⟨_, rfl⟩, plainFor_of_name (by decide), rfl, by decide, fun x h => by cases h⟩
theorem mok_6 : ev_mP (em_6, none) := ⟨⟨_, rfl⟩, plainFor_of_name (by decide), rfl, by decide, fun x h => by cases h⟩
theorem mok_7 : ev_mP (em_7, none) := ⟨⟨_, rfl⟩, plainFor_of_name (by decide), rfl, by decide, fun x h => by cases h⟩
theorem mok_8 : ev_mP (em_8, none) := ⟨⟨_, rfl⟩, plainFor_of_name (by decide), rfl, by decide, fun x h => by cases h⟩
theorem mok_9 : ev_mP (em_9, none) := ⟨⟨_, rfl⟩, plainFor_of_name (by decide), rfl, by decide, fun x h => by cases h⟩
theorem mok_10 : ev_mP (em_10, none) := ⟨⟨_, rfl⟩, plainFor_of_name (by decide), rfl, by decide, fun x h => by cases h⟩
theorem mok_11 : ev_mP (em_11, none) := ⟨⟨_, rfl⟩, plainFor_of_name (by decide), rfl, by decide, fun x h => by cases h⟩
theorem mok_12 : ev_mP (em_12, none) := ⟨⟨_, rfl⟩, plainFor_of_name (by decide), rfl, by decide, fun x h => by cases h⟩
theorem mok_13 : ev_mP (em_13, none) := ⟨⟨_, rfl⟩, plainFor_of_name (by decide), rfl, by decide, fun x h => by cases h⟩
theorem mok_14 : ev_mP (em_14, none) := ⟨⟨_, rfl⟩, plainFor_of_name (by decide), rfl, by decide, fun x h => by cases h⟩
theorem mok_15 : ev_mP (em_15, none) := ⟨⟨_, rfl⟩, plainFor_of_name (by decide), rfl, by decide, fun x h => by cases h⟩
theorem mok_16 : ev_mP (em_16, none) := ⟨⟨_, rfl⟩, plainFor_of_name (by decide), rfl, by decide, fun x h => by cases h⟩
theorem mok_17 : ev_mP (em_17, none) := ⟨⟨_, rfl⟩, plainFor_of_name (by decide), rfl, by decide, fun x h => by cases h⟩
theorem mok_18 : ev_mP (em_18, none) := ⟨⟨_, rfl⟩, plainFor_of_name (by decide), rfl, by decide, fun x h => by cases h⟩
theorem mok_19 : ev_mP (em_19, none) := ⟨⟨_, rfl⟩, plainFor_of_name (by decide), rfl, by decide, fun x h => by cases h⟩
theorem mok_20 : ev_mP (em_20, none) := ⟨⟨_, rfl⟩, plainFor_of_name (by decide), rfl, by decide, fun x h => by cases h⟩
theorem mok_21 : ev_mP (em_21, none) := ⟨⟨_, rfl⟩, plainFor_of_name (by decide), rfl, by decide, fun x h => by cases h⟩
theorem mok_22 : ev_mP (em_22, none) := ⟨⟨_, rfl⟩, plainFor_of_name (by decide), rfl, by decide, fun x h => by cases h⟩
theorem mok_23 : ev_mP (em_23, none) := ⟨⟨_, rfl⟩, plainFor_of_name (by decide), rfl, by decide, fun x h => by cases h⟩
theorem mok_24 : ev_mP (em_24, none) := ⟨⟨_, rfl⟩, plainFor_of_name (by decide), rfl, by decide, fun x h => by cases h⟩
theorem mok_25 : ev_mP (em_25, none) := ⟨⟨_, rfl⟩, plainFor_of_name (by decide), rfl, by decide, fun x h => by cases h⟩
theorem mok_26 : ev_mP (em_26, none) := ⟨⟨_, rfl⟩, plainFor_of_name (by decide), rfl, by decide, fun x h => by cases h⟩
theorem mok_27 : ev_mP (em_27, none) := ⟨⟨_, rfl⟩, plainFor_of_name (by decide), rfl, by decide, fun x h => by cases h⟩
theorem mok_28 : ev_mP (em_28, none) := ⟨⟨_, rfl⟩, plainFor_of_name (by decide), rfl, by decide, fun x h => by cases h⟩
theorem mok_29 : ev_mP (em_29, none) := ⟨⟨_, rfl⟩, plainFor_of_name (by decide), rfl, by decide, fun x h => by cases h⟩
theorem mok_30 : ev_mP (em_30, none) := ⟨⟨_, rfl⟩, plainFor_of_name (by decide), rfl, by decide, fun x h => by cases h⟩
theorem mok_31 : ev_mP (em_31, none) := ⟨⟨_, rfl⟩, plainFor_of_name (by decide), rfl, by decide, fun x h => by cases h⟩
theorem mok_32 : ev_mP (em_32, none) := ⟨⟨_, rfl⟩, plainFor_of_name (by decide), rfl, by decide, fun x h => by cases h⟩
theorem mok_33 : ev_mP (em_33, none) := ⟨⟨_, rfl⟩, plainFor_of_name (by decide), rfl, by decide, fun x h => by cases h⟩
theorem mok_34 : ev_mP (em_34, none) := ⟨⟨_, rfl⟩, plainFor_of_name (by decide), rfl, by decide, fun x h => by cases h⟩
theorem mok_35 : ev_mP (em_35, none) := ⟨⟨_, rfl⟩, plainFor_of_name (by decide), rfl, by decide, fun x h => by cases h⟩
theorem mok_36 : ev_mP (em_36, none) := ⟨⟨_, rfl⟩, plainFor_of_name (by decide), rfl, by decide, fun x h => by cases h⟩
theorem mok_37 : ev_mP (em_37, none) := ⟨⟨_, rfl⟩, plainFor_of_name (by decide), rfl, by decide, fun x h => by cases h⟩
theorem mok_38 : ev_mP (em_38, none) := ⟨⟨_, rfl⟩, plainFor_of_name (by decide), rfl, by decide, fun x h => by cases h⟩
theorem mok_39 : ev_mP (em_39, none) := ⟨⟨_, rfl⟩, plainFor_of_name (by decide), rfl, by decide, fun x h => by cases h⟩
theorem mok_40 : ev_mP (em_40, none) := ⟨⟨_, rfl⟩, plainFor_of_name (by decide), rfl, by decide, fun x h => by cases h⟩
theorem mok_41 : ev_mP (em_41, none) := ⟨⟨_, rfl⟩, plainFor_of_name (by decide), rfl, by decide, fun x h => by cases h⟩
theorem mok_42 : ev_mP (em_42, none) := ⟨⟨_, rfl⟩, plainFor_of_name (by decide), rfl, by decide, fun x h => by cases h⟩
theorem mok_43 : ev_mP (em_43, none) := ⟨⟨_, rfl⟩, plainFor_of_name (by decide), rfl, by decide, fun x h => by cases h⟩
theorem mok_44 : ev_mP (em_44, none) := ⟨⟨_, rfl⟩, plainFor_of_name (by decide), rfl, by decide, fun x h => by cases h⟩
theorem mok_45 : ev_mP (em_45, none) := ⟨⟨_, rfl⟩, plainFor_of_name (by decide), rfl, by decide, fun x h => by cases h⟩
theorem mok_46 : ev_mP (em_46, none) := ⟨⟨_, rfl⟩, plainFor_of_name (by decide), rfl, by decide, fun x h => by cases h⟩
theorem mok_47 : ev_mP (em_47, none) := ⟨⟨_, rfl⟩, plainFor_of_name (by decide), rfl, by decide, fun x h => by cases h⟩
theorem mok_48 : ev_mP (em_48, none) := ⟨⟨_, rfl⟩, plainFor_of_name (by decide), rfl, by decide, fun x h => by cases h⟩
theorem mok_49 : ev_mP (em_49, none) := ⟨⟨_, rfl⟩, plainFor_of_name (by decide), rfl, by decide, fun x h => by cases h⟩
theorem mok_50 : ev_mP (em_50, none) := ⟨⟨_, rfl⟩, plainFor_of_name (by decide), rfl, by decide, fun x h => by cases h⟩
theorem mok_51 : ev_mP (em_51, none) := ⟨⟨_, rfl⟩, plainFor_of_name (by decide), rfl, by decide, fun x h => by cases h⟩
theorem mok_52 : ev_mP (em_52, none) := ⟨⟨_, rfl⟩, plainFor_of_name (by decide), rfl, by decide, fun x h => by cases h⟩
theorem mok_53 : ev_mP (em_53, none) := ⟨⟨_, rfl⟩, plainFor_of_name (by decide), rfl, by decide, fun x h => by cases h⟩
theorem mok_54 : ev_mP (em_54, none) := ⟨⟨_, rfl⟩, plainFor_of_name (by decide), rfl, by decide, fun x h => by cases h⟩
theorem mok_55 : ev_mP (em_55, none) := ⟨⟨_, rfl⟩, plainFor_of_name (by decide), rfl, by decide, fun x h => by cases h⟩
theorem mok_56 : ev_mP (em_56, none) := ⟨⟨_, rfl⟩, plainFor_of_name (by decide), rfl, by decide, fun x h => by cases h⟩
theorem mok_57 : ev_mP (em_57, none) := ⟨⟨_, rfl⟩, plainFor_of_name (by decide), rfl, by decide, fun x h => by cases h⟩
theorem mok_58 : ev_mP (em_58, none) := ⟨⟨_, rfl⟩, plainFor_of_name (by decide), rfl, by decide, fun x h => by cases h⟩
theorem mok_59 : ev_mP (em_59, none) := ⟨⟨_, rfl⟩, plainFor_of_name (by decide), rfl, by decide, fun x h => by cases h⟩
theorem mok_60 : ev_mP (em_60, none) := ⟨⟨_, rfl⟩, plainFor_of_name (by decide), rfl, by decide, fun x h => by cases h⟩
theorem mok_61 : ev_mP (em_61, none) := ⟨⟨_, rfl⟩, plainFor_of_name (by decide), rfl, by decide, fun x h => by cases h⟩
theorem mok_62 : ev_mP (em_62, none) := ⟨⟨_, rfl⟩, plainFor_of_name (by decide), rfl, by decide, fun x h => by cases h⟩
theorem mok_63 : ev_mP (em_63, none) := ⟨⟨_, rfl⟩, plainFor_of_name (by decide), rfl, by decide, fun x h => by cases h⟩
theorem mok_64 : ev_mP (em_64, none) := ⟨⟨_, rfl⟩, plainFor_of_name (by decide), rfl, by decide, fun x h => by cases h⟩
theorem mok_65 : ev_mP (em_65, none) := ⟨⟨_, rfl⟩, plainFor_of_name (by decide), rfl, by decide, fun x h => by cases h⟩
theorem mok_66 : ev_mP (em_66, none) := ⟨⟨_, rfl⟩, plainFor_of_name (by decide), rfl, by decide, fun x h => by cases h⟩
theorem mok_67 : ev_mP (em_67, none) := ⟨⟨_, rfl⟩, plainFor_of_name (by decide), rfl, by decide, fun x h => by cases h⟩
theorem mok_68 : ev_mP (em_68, none) := ⟨⟨_, rfl⟩, plainFor_of_name (by decide), rfl, by decide, fun x h => by cases h⟩
theorem mok_69 : ev_mP (em_69, none) := ⟨⟨_, rfl⟩, plainFor_of_name (by decide), rfl, by decide, fun x h => by cases h⟩
theorem mok_70 : ev_mP (em_70, none) := ⟨⟨_, rfl⟩, plainFor_of_name (by decide), rfl, by decide, fun x h => by cases h⟩
theorem mok_71 : ev_mP (em_71, none) := ⟨⟨_, rfl⟩, plainFor_of_name (by decide), rfl, by decide, fun x h => by cases h⟩
theorem mok_72 : ev_mP (em_72, none) := ⟨⟨_, rfl⟩, plainFor_of_name (by decide), rfl, by decide, fun x h => by cases h⟩
theorem mok_73 : ev_mP (em_73, none) := ⟨⟨_, rfl⟩, plainFor_of_name (by decide), rfl, by decide, fun x h => by cases h⟩
theorem mok_74 : ev_mP (em_74, none) := ⟨⟨_, rfl⟩, plainFor_of_name (by decide), rfl, by decide, fun x h => by cases h⟩
theorem mok_75 : ev_mP (em_75, none) := ⟨⟨_, rfl⟩, plainFor_of_name (by decide), rfl, by decide, fun x h => by cases h⟩
theorem mok_76 : ev_mP (em_76, none) := ⟨⟨_, rfl⟩, plainFor_of_name (by decide), rfl, by decide, fun x h => by cases h⟩
theorem mok_77 : ev_mP (em_77, none) := ⟨⟨_, rfl⟩, plainFor_of_name (by decide), rfl, by decide, fun x h => by cases h⟩
theorem mok_78 : ev_mP (em_78, none) := ⟨⟨_, rfl⟩, plainFor_of_name (by decide), rfl, by decide, fun x h => by cases h⟩
theorem mok_79 : ev_mP (em_79, none) := ⟨⟨_, rfl⟩, plainFor_of_name (by decide), rfl, by decide, fun x h => by cases h⟩
theorem mok_80 : ev_mP (em_80, none) := ⟨⟨_, rfl⟩, plainFor_of_name (by decide), rfl, by decide, fun x h => by cases h⟩
theorem mok_81 : ev_mP (em_81, none) := ⟨⟨_, rfl⟩, plainFor_of_name (by decide), rfl, by decide, fun x h => by cases h⟩
theorem mok_82 : ev_mP (em_82, none) := ⟨⟨_, rfl⟩, plainFor_of_name (by decide), rfl, by decide, fun x h => by cases h⟩
theorem mok_83 : ev_mP (em_83, none) := ⟨⟨_, rfl⟩, plainFor_of_name (by decide), rfl, by decide, fun x h => by cases h⟩
theorem mok_84 : ev_mP (em_84, none) := ⟨⟨_, rfl⟩, plainFor_of_name (by decide), rfl, by decide, fun x h => by cases h⟩
theorem mok_85 : ev_mP (em_85, none) := ⟨⟨_, rfl⟩, plainFor_of_name (by decide), rfl, by decide, fun x h => by cases h⟩
theorem mok_86 : ev_mP (em_86, none) := ⟨⟨_, rfl⟩, plainFor_of_name (by decide), rfl, by decide, fun x h => by cases h⟩
theorem mok_87 : ev_mP (em_87, none) := ⟨⟨_, rfl⟩, plainFor_of_name (by decide), rfl, by decide, fun x h => by cases h⟩
theorem mok_88 : ev_mP (em_88, none) := ⟨⟨_, rfl⟩, plainFor_of_name (by decide), rfl, by decide, fun x h => by cases h⟩
theorem mok_89 : ev_mP (em_89, none) := ⟨⟨_, rfl⟩, plainFor_of_name (by decide), rfl, by decide, fun x h => by cases h⟩
theorem mok_90 : ev_mP (em_90, none) := ⟨⟨_, rfl⟩, plainFor_of_name (by decide), rfl, by decide, fun x h => by cases h⟩
theorem mok_91 : ev_mP (em_91, none) := ⟨⟨_, rfl⟩, plainFor_of_name (by decide), rfl, by decide, fun x h => by cases h⟩
theorem mok_92 : ev_mP (em_92, none) := ⟨⟨_, rfl⟩, plainFor_of_name (by decide), rfl, by decide, fun x h => by cases h⟩
theorem mok_93 : ev_mP (em_93, none) := ⟨⟨_, rfl⟩, plainFor_of_name (by decide), rfl, by decide, fun x h => by cases h⟩
theorem mok_94 : ev_mP (em_94, none) := ⟨⟨_, rfl⟩, plainFor_of_name (by decide), rfl, by decide, fun x h => by cases h⟩
theorem mok_95 : ev_mP (em_95, none) := ⟨⟨_, rfl⟩, plainFor_of_name (by decide), rfl, by decide, fun x h => by cases h⟩
theorem mok_96 : ev_mP (em_96, none) := ⟨⟨_, rfl⟩, plainFor_of_name (by decide), rfl, by decide, fun x h => by cases h⟩
theorem mok_97 : ev_mP (em_97, none) := ⟨⟨_, rfl⟩, plainFor_of_name (by decide), rfl, by decide, fun x h => by cases h⟩
theorem mok_98 : ev_mP (em_98, none) := ⟨⟨_, rfl⟩, plainFor_of_name (by decide), rfl, by decide, fun x h => by cases h⟩
theorem mok_99 : ev_mP (em_99, none) := ⟨⟨_, rfl⟩, plainFor_of_name (by decide), rfl, by decide, fun x h => by cases h⟩
theorem mok_100 : ev_mP (em_100, none) := ⟨⟨_, rfl⟩, plainFor_of_name (by decide), rfl, by decide, fun x h => by cases h⟩
theorem mok_101 : ev_mP (em_101, none) := ⟨⟨_, rfl⟩, plainFor_of_name (by decide), rfl, by decide, fun x h => by cases h⟩
theorem mok_102 : ev_mP (em_102, none) := ⟨⟨_, rfl⟩, plainFor_of_name (by decide), rfl, by decide, fun x h => by cases h⟩
theorem mok_103 : ev_mP (em_103, none) := ⟨⟨_, rfl⟩, plainFor_of_name (by decide), rfl, by decide, fun x h => by cases h⟩
theorem mok_104 : ev_mP (em_104, none) := ⟨⟨_, rfl⟩, plainFor_of_name (by decide), rfl, by decide, fun x h => by cases h⟩
theorem mok_105 : ev_mP (em_105, none) := ⟨⟨_, rfl⟩, plainFor_of_name (by decide), rfl, by decide, fun x h => by cases h⟩
theorem mok_106 : ev_mP (em_106, none) := ⟨⟨_, rfl⟩, plainFor_of_name (by decide), rfl, by decide, fun x h => by cases h⟩
theorem mok_107 : ev_mP (em_107, none) := ⟨⟨_, rfl⟩, plainFor_of_name (by decide), rfl, by decide, fun x h => by cases h⟩
theorem mok_108 : ev_mP (em_108, none) := ⟨⟨_, rfl⟩, plainFor_of_name (by decide), rfl, by decide, fun x h => by cases h⟩
theorem mok_109 : ev_mP (em_109, none) := ⟨⟨_, rfl⟩, plainFor_of_name (by decide), rfl, by decide, fun x h => by cases h⟩
theorem mok_110 : ev_mP (em_110, none) := ⟨⟨_, rfl⟩, plainFor_of_name (by decide), rfl, by decide, fun x h => by cases h⟩
theorem mok_111 : ev_mP (em_111, none) := ⟨⟨_, rfl⟩, plainFor_of_name (by decide), rfl, by decide, fun x h => by cases h⟩
theorem mok_112 : ev_mP (em_112, none) := ⟨⟨_, rfl⟩, plainFor_of_name (by decide), rfl, by decide, fun x h => by cases h⟩
theorem mok_113 : ev_mP (em_113, none) := ⟨⟨_, rfl⟩, plainFor_of_name (by decide), rfl, by decide, fun x h => by cases h⟩
theorem mok_114 : ev_mP (em_114, none) := ⟨⟨_, rfl⟩, plainFor_of_name (by decide), rfl, by decide, fun x h => by cases h⟩
theorem mok_115 : ev_mP (em_115, none) := ⟨⟨_, rfl⟩, plainFor_of_name (by decide), rfl, by decide, fun x h => by cases h⟩
theorem mok_116 : ev_mP (em_116, none) := ⟨⟨_, rfl⟩, plainFor_of_name (by decide), rfl, by decide, fun x h => by cases h⟩
theorem mok_117 : ev_mP (em_117, none) := ⟨⟨_, rfl⟩, plainFor_of_name (by decide), rfl, by decide, fun x h => by cases h⟩
theorem mok_118 : ev_mP (em_118, none) := ⟨⟨_, rfl⟩, plainFor_of_name (by decide), rfl, by decide, fun x h => by cases h⟩
theorem mok_119 : ev_mP (em_119, none) := ⟨⟨_, rfl⟩, plainFor_of_name (by decide), rfl, by decide, fun x h => by cases h⟩
theorem mok_120 : ev_mP (em_120, none) := ⟨⟨_, rfl⟩, plainFor_of_name (by decide), rfl, by decide, fun x h => by cases h⟩
theorem mok_121 : ev_mP (em_121, none) := ⟨⟨_, rfl⟩, plainFor_of_name (by decide), rfl, by decide, fun x h => by cases h⟩
theorem mok_122 : ev_mP (em_122, none) := ⟨⟨_, rfl⟩, plainFor_of_name (by decide), rfl, by decide, fun x h => by cases h⟩
theorem mok_123 : ev_mP (em_123, none) := ⟨⟨_, rfl⟩, plainFor_of_name (by decide), rfl, by decide, fun x h => by cases h⟩
theorem mok_124 : ev_mP (em_124, none) := ⟨⟨_, rfl⟩, plainFor_of_name (by decide), rfl, by decide, fun x h => by cases h⟩
theorem mok_125 : ev_mP (em_125, none) := ⟨⟨_, rfl⟩, plainFor_of_name (by decide), rfl, by decide, fun x h => by cases h⟩
theorem mok_126 : ev_mP (em_126, none) := ⟨⟨_, rfl⟩, plainFor_of_name (by decide), rfl, by decide, fun x h => by cases h⟩
theorem mok_127 : ev_mP (em_127, none) := ⟨⟨_, rfl⟩, plainFor_of_name (by decide), rfl, by decide, fun x h => by cases h⟩
theorem mok_128 : ev_mP (em_128, none) := ⟨⟨_, rfl⟩, plainFor_of_name (by decide), rfl, by decide, fun x h => by cases h⟩
theorem mok_129 : ev_mP (em_129, none) := ⟨⟨_, rfl⟩, plainFor_of_name (by decide), rfl, by decide, fun x h => by cases h⟩
theorem mok_130 : ev_mP (em_130, none) := ⟨⟨_, rfl⟩, plainFor_of_name (by decide), rfl, by decide, fun x h => by cases h⟩
theorem mok_131 : ev_mP (em_131, none) := ⟨⟨_, rfl⟩, plainFor_of_name (by decide), rfl, by decide, fun x h => by cases h⟩
theorem mok_132 : ev_mP (em_132, none) := ⟨⟨_, rfl⟩, plainFor_of_name (by decide), rfl, by decide, fun x h => by cases h⟩
theorem mok_133 : ev_mP (em_133, none) := ⟨⟨_, rfl⟩, plainFor_of_name (by decide), rfl, by decide, fun x h => by cases h⟩
theorem mok_134 : ev_mP (em_134, none) := ⟨⟨_, rfl⟩, plainFor_of_name (by decide), rfl, by decide, fun x h => by cases h⟩
theorem mok_135 : ev_mP (em_135, none) := ⟨⟨_, rfl⟩, plainFor_of_name (by decide), rfl, by decide, fun x h => by cases h⟩
theorem mok_136 : ev_mP (em_136, none) := ⟨⟨_, rfl⟩, plainFor_of_name (by decide), rfl, by decide, fun x h => by cases h⟩
theorem mok_137 : ev_mP (em_137, none) := ⟨⟨_, rfl⟩, plainFor_of_name (by decide), rfl, by decide, fun x h => by cases h⟩
theorem mok_138 : ev_mP (em_138, none) := ⟨⟨_, rfl⟩, plainFor_of_name (by decide), rfl, by decide, fun x h => by cases h⟩
theorem mok_139 : ev_mP (em_139, none) := ⟨⟨_, rfl⟩, plainFor_of_name (by decide), rfl, by decide, fun x h => by cases h⟩
theorem mok_140 : ev_mP (em_140, none) := ⟨⟨_, rfl⟩, plainFor_of_name (by decide), rfl, by decide, fun x h => by cases h⟩
theorem mok_141 : ev_mP (em_141, none) := ⟨⟨_, rfl⟩, plainFor_of_name (by decide), rfl, by decide, fun x h => by cases h⟩
theorem mok_142 : ev_mP (em_142, none) := ⟨⟨_, rfl⟩, plainFor_of_name (by decide), rfl, by decide, fun x h => by cases h⟩
theorem mok_143 : ev_mP (em_143, none) := ⟨⟨_, rfl⟩, plainFor_of_name (by decide), rfl, by decide, fun x h => by cases h⟩
theorem mok_144 : ev_mP (em_144, none) := ⟨⟨_, rfl⟩, plainFor_of_name (by decide), rfl, by decide, fun x h => by cases h⟩
theorem mok_145 : ev_mP (em_145, none) := ⟨⟨_, rfl⟩, plainFor_of_name (by decide), rfl, by decide, fun x h => by cases h⟩
theorem mok_146 : ev_mP (em_146, none) := ⟨⟨_, rfl⟩, plainFor_of_name (by decide), rfl, by decide, fun x h => by cases h⟩
theorem mok_147 : ev_mP (em_147, none) := ⟨⟨_, rfl⟩, plainFor_of_name (by decide), rfl, by decide, fun x h => by cases h⟩
theorem mok_148 : ev_mP (em_148, none) := ⟨⟨_, rfl⟩, plainFor_of_name (by decide), rfl, by decide, fun x h => by cases h⟩
theorem mok_149 : ev_mP (em_149, none) := ⟨⟨_, rfl⟩, plainFor_of_name (by decide), rfl, by decide, fun x h => by cases h⟩
theorem mok_150 : ev_mP (em_150, none) := ⟨⟨_, rfl⟩, plainFor_of_name (by decide), rfl, by decide, fun x h => by cases h⟩
theorem mok_151 : ev_mP (em_151, none) := ⟨⟨_, rfl⟩, plainFor_of_name (by decide), rfl, by decide, fun x h => by cases h⟩
theorem mok_152 : ev_mP (em_152, none) := ⟨⟨_, rfl⟩, plainFor_of_name (by decide), rfl, by decide, fun x h => by cases h⟩
theorem mok_153 : ev_mP (em_153, none) := ⟨⟨_, rfl⟩, plainFor_of_name (by decide), rfl, by decide, fun x h => by cases h⟩
theorem mok_154 : ev_mP (em_154, none) := ⟨⟨_, rfl⟩, plainFor_of_name (by decide), rfl, by decide, fun x h => by cases h⟩
theorem mok_155 : ev_mP (em_155, none) := ⟨⟨_, rfl⟩, plainFor_of_name (by decide), rfl, by decide, fun x h => by cases h⟩
theorem mok_156 : ev_mP (em_156, none) := ⟨⟨_, rfl⟩, plainFor_of_name (by decide), rfl, by decide, fun x h => by cases h⟩
theorem mok_157 : ev_mP (em_157, none) := ⟨⟨_, rfl⟩, plainFor_of_name (by decide), rfl, by decide, fun x h => by cases h⟩
theorem mok_158 : ev_mP (em_158, none) := ⟨⟨_, rfl⟩, plainFor_of_name (by decide), rfl, by decide, fun x h => by cases h⟩
theorem mok_159 : ev_mP (em_159, none) := ⟨⟨_, rfl⟩, plainFor_of_name (by decide), rfl, by decide, fun x h => by cases h⟩
theorem mok_160 : ev_mP (em_160, none) := ⟨⟨_, rfl⟩, plainFor_of_name (by decide), rfl, by decide, fun x h => by cases h⟩
theorem mok_161 : ev_mP (em_161, none) := ⟨⟨_, rfl⟩, plainFor_of_name (by decide), rfl, by decide, fun x h => by cases h⟩
theorem mok_162 : ev_mP (em_162, none) := ⟨⟨_, rfl⟩, plainFor_of_name (by decide), rfl, by decide, fun x h => by cases h⟩
theorem mok_163 : ev_mP (em_163, none) := ⟨⟨_, rfl⟩, plainFor_of_name (by decide), rfl, by decide, fun x h => by cases h⟩
theorem mok_164 : ev_mP (em_164, none) := ⟨⟨_, rfl⟩, plainFor_of_name (by decide), rfl, by decide, fun x h => by cases h⟩
theorem mok_165 : ev_mP (em_165, none) := ⟨⟨_, rfl⟩, plainFor_of_name (by decide), rfl, by decide, fun x h => by cases h⟩
theorem mok_166 : ev_mP (em_166, none) := ⟨⟨_, rfl⟩, plainFor_of_name (by decide), rfl, by decide, fun x h => by cases h⟩
theorem mok_167 : ev_mP (em_167, none) := ⟨⟨_, rfl⟩, plainFor_of_name (by decide), rfl, by decide, fun x h => by cases h⟩
theorem mok_168 : ev_mP (em_168, none) := ⟨⟨_, rfl⟩, plainFor_of_name (by decide), rfl, by decide, fun x h => by cases h⟩
theorem mok_169 : ev_mP (em_169, none) := ⟨⟨_, rfl⟩, plainFor_of_name (by decide), rfl, by decide, fun x h => by cases h⟩
theorem mok_170 : ev_mP (em_170, none) := ⟨⟨_, rfl⟩, plainFor_of_name (by decide), rfl, by decide, fun x h => by cases h⟩
theorem mok_171 : ev_mP (em_171, none) := ⟨⟨_, rfl⟩, plainFor_of_name (by decide), rfl, by decide, fun x h => by cases h⟩
theorem mok_172 : ev_mP (em_172, none) := ⟨⟨_, rfl⟩, plainFor_of_name (by decide), rfl, by decide, fun x h => by cases h⟩
theorem mok_173 : ev_mP (em_173, none) := ⟨⟨_, rfl⟩, plainFor_of_name (by decide), rfl, by decide, fun x h => by cases h⟩
theorem mok_174 : ev_mP (em_174, none) := ⟨⟨_, rfl⟩, plainFor_of_name (by decide), rfl, by decide, fun x h => by cases h⟩
theorem mok_175 : ev_mP (em_175, none) := ⟨⟨_, rfl⟩, plainFor_of_name (by decide), rfl, by decide, fun x h => by cases h⟩
theorem mok_176 : ev_mP (em_176, none) := ⟨⟨_, rfl⟩, plainFor_of_name (by decide), rfl, by decide, fun x h => by cases h⟩
theorem mok_177 : ev_mP (em_177, none) := ⟨⟨_, rfl⟩, plainFor_of_name (by decide), rfl, by decide, fun x h => by cases h⟩
theorem mok_178 : ev_mP (em_178, none) := ⟨⟨_, rfl⟩, plainFor_of_name (by decide), rfl, by decide, fun x h => by cases h⟩
theorem mok_179 : ev_mP (em_179, none) := ⟨⟨_, rfl⟩, plainFor_of_name (by decide), rfl, by decide, fun x h => by cases h⟩
theorem mok_180 : ev_mP (em_180, none) := ⟨⟨_, rfl⟩, plainFor_of_name (by decide), rfl, by decide, fun x h => by cases h⟩
theorem mok_181 : ev_mP (em_181, none) := ⟨⟨_, rfl⟩, plainFor_of_name (by decide), rfl, by decide, fun x h => by cases h⟩
theorem mok_182 : ev_mP (em_182, none) := ⟨⟨_, rfl⟩, plainFor_of_name (by decide), rfl, by decide, fun x h => by cases h⟩
theorem mok_183 : ev_mP (em_183, none) := ⟨⟨_, rfl⟩, plainFor_of_name (by decide), rfl, by decide, fun x h => by cases h⟩
theorem mok_184 : ev_mP (em_184, none) := ⟨⟨_, rfl⟩, plainFor_of_name (by decide), rfl, by decide, fun x h => by cases h⟩
theorem mok_185 : ev_mP (em_185, none) := ⟨⟨_, rfl⟩, plainFor_of_name (by decide), rfl, by decide, fun x h => by cases h⟩
theorem mok_186 : ev_mP (em_186, none) := ⟨⟨_, rfl⟩, plainFor_of_name (by decide), rfl, by decide, fun x h => by cases h⟩
theorem mok_187 : ev_mP (em_187, none) := ⟨⟨_, rfl⟩, plainFor_of_name (by decide), rfl, by decide, fun x h => by cases h⟩
theorem mok_188 : ev_mP (em_188, none) := ⟨⟨_, rfl⟩, plainFor_of_name (by decide), rfl, by decide, fun x h => by cases h⟩
theorem mok_189 : ev_mP (em_189, none) := ⟨⟨_, rfl⟩, plainFor_of_name (by decide), rfl, by decide, fun x h => by cases h⟩
theorem mok_190 : ev_mP (em_190, none) := ⟨⟨_, rfl⟩, plainFor_of_name (by decide), rfl, by decide, fun x h => by cases h⟩
theorem mok_191 : ev_mP (em_191, none) := ⟨⟨_, rfl⟩, plainFor_of_name (by decide), rfl, by decide, fun x h => by cases h⟩
theorem mok_192 : ev_mP (em_192, none) := ⟨⟨_, rfl⟩, plainFor_of_name (by decide), rfl, by decide, fun x h => by cases h⟩
theorem mok_193 : ev_mP (em_193, none) := ⟨⟨_, rfl⟩, plainFor_of_name (by decide), rfl, by decide, fun x h => by cases h⟩
theorem mok_194 : ev_mP (em_194, none) := ⟨⟨_, rfl⟩, plainFor_of_name (by decide), rfl, by decide, fun x h => by cases h⟩
theorem mok_195 : ev_mP (em_195, none) := ⟨⟨_, rfl⟩, plainFor_of_name (by decide), rfl, by decide, fun x h => by cases h⟩
theorem mok_196 : ev_mP (em_196, none) := ⟨⟨_, rfl⟩, plainFor_of_name (by decide), rfl, by decide, fun x h => by cases h⟩
theorem mok_197 : ev_mP (em_197, none) := ⟨⟨_, rfl⟩, plainFor_of_name (by decide), rfl, by decide, fun x h => by cases h⟩
theorem mok_198 : ev_mP (em_198, none) := ⟨⟨_, rfl⟩, plainFor_of_name (by decide), rfl, by decide, fun x h => by cases h⟩
theorem mok_199 : ev_mP (em_199, none) := ⟨⟨_, rfl⟩, plainFor_of_name (by decide), rfl, by decide, fun x h => by cases h⟩
theorem mok_200 : ev_mP (em_200, none) := ⟨⟨_, rfl⟩, plainFor_of_name (by decide), rfl, by decide, fun x h => by cases h⟩
theorem mok_201 : ev_mP (em_201, none) := ⟨⟨_, rfl⟩, plainFor_of_name (by decide), rfl, by decide, fun x h => by cases h⟩
theorem mok_202 : ev_mP (em_202, none) := ⟨⟨_, rfl⟩, plainFor_of_name (by decide), rfl, by decide, fun x h => by cases h⟩
theorem mok_203 : ev_mP (em_203, none) := ⟨⟨_, rfl⟩, plainFor_of_name (by decide), rfl, by decide, fun x h => by cases h⟩
theorem mok_204 : ev_mP (em_204, none) := ⟨⟨_, rfl⟩, plainFor_of_name (by decide), rfl, by decide, fun x h => by cases h⟩
theorem mok_205 : ev_mP (em_205, none) := ⟨⟨_, rfl⟩, plainFor_of_name (by decide), rfl, by decide, fun x h => by cases h⟩
theorem mok_206 : ev_mP (em_206, none) := ⟨⟨_, rfl⟩, plainFor_of_name (by decide), rfl, by decide, fun x h => by cases h⟩
theorem mok_207 : ev_mP (em_207, none) := ⟨⟨_, rfl⟩, plainFor_of_name (by decide), rfl, by decide, fun x h => by cases h⟩
theorem mok_208 : ev_mP (em_208, none) := ⟨⟨_, rfl⟩, plainFor_of_name (by decide), rfl, by decide, fun x h => by cases h⟩
theorem mok_209 : ev_mP (em_209, none) := ⟨⟨_, rfl⟩, plainFor_of_name (by decide), rfl, by decide, fun x h => by cases h⟩
theorem mok_210 : ev_mP (em_210, none) := ⟨⟨_, rfl⟩, plainFor_of_name (by decide), rfl, by decide, fun x h => by cases h⟩
theorem mok_211 : ev_mP (em_211, none) := ⟨⟨_, rfl⟩, plainFor_of_name (by decide), rfl, by decide, fun x h => by cases h⟩
theorem mok_212 : ev_mP (em_212, none) := ⟨⟨_, rfl⟩, plainFor_of_name (by decide), rfl, by decide, fun x h => by cases h⟩
theorem mok_213 : ev_mP (em_213, none) := ⟨⟨_, rfl⟩, plainFor_of_name (by decide), rfl, by decide, fun x h => by cases h⟩
theorem mok_214 : ev_mP (em_214, none) := ⟨⟨_, rfl⟩, plainFor_of_name (by decide), rfl, by decide, fun x h => by cases h⟩
theorem mok_215 : ev_mP (em_215, none) := ⟨⟨_, rfl⟩, plainFor_of_name (by decide), rfl, by decide, fun x h => by cases h⟩
theorem mok_216 : ev_mP (em_216, none) := ⟨⟨_, rfl⟩, plainFor_of_name (by decide), rfl, by decide, fun x h => by cases h⟩
theorem mok_217 : ev_mP (em_217, none) := ⟨⟨_, rfl⟩, plainFor_of_name (by decide), rfl, by decide, fun x h => by cases h⟩
theorem mok_218 : ev_mP (em_218, none) := ⟨⟨_, rfl⟩, plainFor_of_name (by decide), rfl, by decide, fun x h => by cases h⟩
theorem mok_219 : ev_mP (em_219, none) := ⟨⟨_, rfl⟩, plainFor_of_name (by decide), rfl, by decide, fun x h => by cases h⟩
theorem mok_220 : ev_mP (em_220, none) := ⟨⟨_, rfl⟩, plainFor_of_name (by decide), rfl, by decide, fun x h => by cases h⟩
theorem mok_221 : ev_mP (em_221, none) := ⟨⟨_, rfl⟩, plainFor_of_name (by decide), rfl, by decide, fun x h => by cases h⟩
theorem mok_222 : ev_mP (em_222, none) := ⟨⟨_, rfl⟩, plainFor_of_name (by decide), rfl, by decide, fun x h => by cases h⟩
theorem mok_223 : ev_mP (em_223, none) := ⟨⟨_, rfl⟩, plainFor_of_name (by decide), rfl, by decide, fun x h => by cases h⟩
theorem mok_224 : ev_mP (em_224, none) := ⟨⟨_, rfl⟩, plainFor_of_name (by decide), rfl, by decide, fun x h => by cases h⟩
theorem mok_225 : ev_mP (em_225, none) := ⟨⟨_, rfl⟩, plainFor_of_name (by decide), rfl, by decide, fun x h => by cases h⟩
theorem mok_226 : ev_mP (em_226, none) := ⟨⟨_, rfl⟩, plainFor_of_name (by decide), rfl, by decide, fun x h => by cases h⟩
theorem mok_227 : ev_mP (em_227, none) := ⟨⟨_, rfl⟩, plainFor_of_name (by decide), rfl, by decide, fun x h => by cases h⟩
theorem mok_228 : ev_mP (em_228, none) := ⟨⟨_, rfl⟩, plainFor_of_name (by decide), rfl, by decide, fun x h => by cases h⟩
theorem mok_229 : ev_mP (em_229, none) := ⟨⟨_, rfl⟩, plainFor_of_name (by decide), rfl, by decide, fun x h => by cases h⟩
theorem mok_230 : ev_mP (em_230, none) := ⟨⟨_, rfl⟩, plainFor_of_name (by decide), rfl, by decide, fun x h => by cases h⟩
theorem mok_231 : ev_mP (em_231, none) := ⟨⟨_, rfl⟩, plainFor_of_name (by decide), rfl, by decide, fun x h => by cases h⟩
theorem mok_232 : ev_mP (em_232, none) := ⟨⟨_, rfl⟩, plainFor_of_name (by decide), rfl, by decide, fun x h => by cases h⟩
theorem mok_233 : ev_mP (em_233, none) := ⟨⟨_, rfl⟩, plainFor_of_name (by decide), rfl, by decide, fun x h => by cases h⟩
theorem mok_234 : ev_mP (em_234, none) := ⟨⟨_, rfl⟩, plainFor_of_name (by decide), rfl, by decide, fun x h => by cases h⟩
theorem mok_235 : ev_mP (em_235, none) := ⟨⟨_, rfl⟩, plainFor_of_name (by decide), rfl, by decide, fun x h => by cases h⟩
theorem mok_236 : ev_mP (em_236, none) := ⟨⟨_, rfl⟩, plainFor_of_name (by decide), rfl, by decide, fun x h => by cases h⟩
theorem mok_237 : ev_mP (em_237, none) := ⟨⟨_, rfl⟩, plainFor_of_name (by decide), rfl, by decide, fun x h => by cases h⟩
theorem mok_238 : ev_mP (em_238, none) := ⟨⟨_, rfl⟩, plainFor_of_name (by decide), rfl, by decide, fun x h => by cases h⟩
theorem mok_239 : ev_mP (em_239, none) := ⟨⟨_, rfl⟩, plainFor_of_name (by decide), rfl, by decide, fun x h => by cases h⟩
theorem mok_240 : ev_mP (em_240, none) := ⟨⟨_, rfl⟩, plainFor_of_name (by decide), rfl, by decide, fun x h => by cases h⟩
theorem mok_241 : ev_mP (em_241, none) := ⟨⟨_, rfl⟩, plainFor_of_name (by decide), rfl, by decide, fun x h => by cases h⟩
theorem mok_242 : ev_mP (em_242, none) := ⟨⟨_, rfl⟩, plainFor_of_name (by decide), rfl, by decide, fun x h => by cases h⟩
theorem mok_243 : ev_mP (em_243, none) := ⟨⟨_, rfl⟩, plainFor_of_name (by decide), rfl, by decide, fun x h => by cases h⟩
theorem mok_244 : ev_mP (em_244, none) := ⟨⟨_, rfl⟩, plainFor_of_name (by decide), rfl, by decide, fun x h => by cases h⟩
theorem mok_245 : ev_mP (em_245, none) := ⟨⟨_, rfl⟩, plainFor_of_name (by decide), rfl, by decide, fun x h => by cases h⟩
theorem mok_246 : ev_mP (em_246, none) := ⟨⟨_, rfl⟩, plainFor_of_name (by decide), rfl, by decide, fun x h => by cases h⟩
theorem mok_247 : ev_mP (em_247, none) := ⟨⟨_, rfl⟩, plainFor_of_name (by decide), rfl, by decide, fun x h => by cases h⟩
theorem mok_248 : ev_mP (em_248, none) := ⟨⟨_, rfl⟩, plainFor_of_name (by decide), rfl, by decide, fun x h => by cases h⟩
theorem mok_249 : ev_mP (em_249, none) := ⟨⟨_, rfl⟩, plainFor_of_name (by decide), rfl, by decide, fun x h => by cases h⟩
theorem mok_250 : ev_mP (em_250, none) := ⟨⟨_, rfl⟩, plainFor_of_name (by decide), rfl, by decide, fun x h => by cases h⟩
theorem mok_251 : ev_mP (em_251, none) := ⟨⟨_, rfl⟩, plainFor_of_name (by decide), rfl, by decide, fun x h => by cases h⟩
theorem mok_252 : ev_mP (em_252, none) := ⟨⟨_, rfl⟩, plainFor_of_name (by decide), rfl, by decide, fun x h => by cases h⟩
theorem mok_253 : ev_mP (em_253, none) := ⟨⟨_, rfl⟩, plainFor_of_name (by decide), rfl, by decide, fun x h => by cases h⟩
theorem mok_254 : ev_mP (em_254, none) := ⟨⟨_, rfl⟩, plainFor_of_name (by decide), rfl, by decide, fun x h => by cases h⟩
theorem mok_255 : ev_mP (em_255, none) := ⟨⟨_, rfl⟩, plainFor_of_name (by decide), rfl, by decide, fun x h => by cases h⟩
theorem mok_256 : ev_mP (em_256, none) := ⟨⟨_, rfl⟩, plainFor_of_name (by decide), rfl, by decide, fun x h => by cases h⟩
theorem mok_257 : ev_mP (em_257, none) := ⟨⟨_, rfl⟩, plainFor_of_name (by decide), rfl, by decide, fun x h => by cases h⟩
theorem mok_258 : ev_mP (em_258, none) := ⟨⟨_, rfl⟩, plainFor_of_name (by decide), rfl, by decide, fun x h => by cases h⟩
theorem mok_259 : ev_mP (em_259, none) := ⟨⟨_, rfl⟩, plainFor_of_name (by decide), rfl, by decide, fun x h => by cases h⟩
theorem mok_260 : ev_mP (em_260, none) := ⟨⟨_, rfl⟩, plainFor_of_name (by decide), rfl, by decide, fun x h => by cases h⟩
theorem mok_261 : ev_mP (em_261, none) := ⟨⟨_, rfl⟩, plainFor_of_name (by decide), rfl, by decide, fun x h => by cases h⟩
theorem mok_262 : ev_mP (em_262, none) := ⟨⟨_, rfl⟩, plainFor_of_name (by decide), rfl, by decide, fun x h => by cases h⟩
theorem mok_263 : ev_mP (em_263, none) := ⟨⟨_, rfl⟩, plainFor_of_name (by decide), rfl, by decide, fun x h => by cases h⟩
theorem mok_264 : ev_mP (em_264, none) := ⟨⟨_, rfl⟩, plainFor_of_name (by decide), rfl, by decide, fun x h => by cases h⟩
theorem mok_265 : ev_mP (em_265, none) := ⟨⟨_, rfl⟩, plainFor_of_name (by decide), rfl, by decide, fun x h => by cases h⟩
theorem mok_266 : ev_mP (em_266, none) := ⟨⟨_, rfl⟩, plainFor_of_name (by decide), rfl, by decide, fun x h => by cases h⟩
theorem mok_267 : ev_mP (em_267, none) := ⟨⟨_, rfl⟩, plainFor_of_name (by decide), rfl, by decide, fun x h => by cases h⟩
theorem mok_268 : ev_mP (em_268, none) := ⟨⟨_, rfl⟩, plainFor_of_name (by decide), rfl, by decide, fun x h => by cases h⟩
theorem mok_269 : ev_mP (em_269, none) := ⟨⟨_, rfl⟩, plainFor_of_name (by decide), rfl, by decide, fun x h => by cases h⟩
theorem mok_270 : ev_mP (em_270, none) := ⟨⟨_, rfl⟩, plainFor_of_name (by decide), rfl, by decide, fun x h => by cases h⟩
theorem mok_271 : ev_mP (em_271, none) := ⟨⟨_, rfl⟩, plainFor_of_name (by decide), rfl, by decide, fun x h => by cases h⟩
theorem mok_272 : ev_mP (em_272, none) := ⟨⟨_, rfl⟩, plainFor_of_name (by decide), rfl, by decide, fun x h => by cases h⟩
theorem mok_273 : ev_mP (em_273, none) := ⟨⟨_, rfl⟩, plainFor_of_name (by decide), rfl, by decide, fun x h => by cases h⟩
theorem mok_274 : ev_mP (em_274, none) := ⟨⟨_, rfl⟩, plainFor_of_name (by decide), rfl, by decide, fun x h => by cases h⟩
theorem mok_275 : ev_mP (em_275, none) := ⟨⟨_, rfl⟩, plainFor_of_name (by decide), rfl, by decide, fun x h => by cases h⟩
theorem mok_276 : ev_mP (em_276, none) := ⟨⟨_, rfl⟩, plainFor_of_name (by decide), rfl, by decide, fun x h => by cases h⟩
theorem mok_277 : ev_mP (em_277, none) := ⟨⟨_, rfl⟩, plainFor_of_name (by decide), rfl, by decide, fun x h => by cases h⟩
theorem mok_278 : ev_mP (em_278, none) := ⟨⟨_, rfl⟩, plainFor_of_name (by decide), rfl, by decide, fun x h => by cases h⟩
theorem mok_279 : ev_mP (em_279, none) := ⟨⟨_, rfl⟩, plainFor_of_name (by decide), rfl, by decide, fun x h => by cases h⟩
theorem mok_280 : ev_mP (em_280, none) := ⟨⟨_, rfl⟩, plainFor_of_name (by decide), rfl, by decide, fun x h => by cases h⟩
theorem mok_281 : ev_mP (em_281, none) := ⟨⟨_, rfl⟩, plainFor_of_name (by decide), rfl, by decide, fun x h => by cases h⟩
theorem mok_282 : ev_mP (em_282, none) := ⟨⟨_, rfl⟩, plainFor_of_name (by decide), rfl, by decide, fun x h => by cases h⟩
theorem mok_283 : ev_mP (em_283, none) := ⟨⟨_, rfl⟩, plainFor_of_name (by decide), rfl, by decide, fun x h => by cases h⟩
theorem mok_284 : ev_mP (em_284, none) := ⟨⟨_, rfl⟩, plainFor_of_name (by decide), rfl, by decide, fun x h => by cases h⟩
theorem mok_285 : ev_mP (em_285, none) := ⟨⟨_, rfl⟩, plainFor_of_name (by decide), rfl, by decide, fun x h => by cases h⟩
theorem mok_286 : ev_mP (em_286, none) := ⟨⟨_, rfl⟩, plainFor_of_name (by decide), rfl, by decide, fun x h => by cases h⟩
theorem mok_287 : ev_mP (em_287, none) := ⟨⟨_, rfl⟩, plainFor_of_name (by decide), rfl, by decide, fun x h => by cases h⟩
theorem mok_288 : ev_mP (em_288, none) := ⟨⟨_, rfl⟩, plainFor_of_name (by decide), rfl, by decide, fun x h => by cases h⟩
theorem mok_289 : ev_mP (em_289, none) := ⟨⟨_, rfl⟩, plainFor_of_name (by decide), rfl, by decide, fun x h => by cases h⟩
theorem mok_290 : ev_mP (em_290, none) := ⟨⟨_, rfl⟩, plainFor_of_name (by decide), rfl, by decide, fun x h => by cases h⟩
theorem mok_291 : ev_mP (em_291, none) := ⟨⟨_, rfl⟩, plainFor_of_name (by decide), rfl, by decide, fun x h => by cases h⟩
theorem mok_292 : ev_mP (em_292, none) := ⟨⟨_, rfl⟩, plainFor_of_name (by decide), rfl, by decide, fun x h => by cases h⟩
theorem mok_293 : ev_mP (em_293, none) := ⟨⟨_, rfl⟩, plainFor_of_name (by decide), rfl, by decide, fun x h => by cases h⟩
theorem mok_294 : ev_mP (em_294, none) := ⟨⟨_, rfl⟩, plainFor_of_name (by decide), rfl, by decide, fun x h => by cases h⟩
theorem mok_295 : ev_mP (em_295, none) := ⟨⟨_, rfl⟩, plainFor_of_name (by decide), rfl, by decide, fun x h => by cases h⟩
theorem mok_296 : ev_mP (em_296, none) := ⟨⟨_, rfl⟩, plainFor_of_name (by decide), rfl, by decide, fun x h => by cases h⟩
theorem mok_297 : ev_mP (em_297, none) := ⟨⟨_, rfl⟩, plainFor_of_name (by decide), rfl, by decide, fun x h => by cases h⟩
theorem mok_298 : ev_mP (em_298, none) := ⟨⟨_, rfl⟩, plainFor_of_name (by decide), rfl, by decide, fun x h => by cases h⟩
theorem mok_299 : ev_mP (em_299, none) := ⟨⟨_, rfl⟩, plainFor_of_name (by decide), rfl, by decide, fun x h => by cases h⟩
theorem mok_300 : ev_mP (em_300, none) := ⟨⟨_, rfl⟩, plainFor_of_name (by decide), rfl, by decide, fun x h => by cases h⟩
theorem mok_301 : ev_mP (em_301, none) := ⟨⟨_, rfl⟩, plainFor_of_name (by decide), rfl, by decide, fun x h => by cases h⟩
theorem mok_302 : ev_mP (em_302, none) := ⟨⟨_, rfl⟩, plainFor_of_name (by decide), rfl, by decide, fun x h => by cases h⟩
theorem mok_303 : ev_mP (em_303, none) := ⟨⟨_, rfl⟩, plainFor_of_name (by decide), rfl, by decide, fun x h => by cases h⟩
theorem mok_304 : ev_mP (em_304, none) := ⟨⟨_, rfl⟩, plainFor_of_name (by decide), rfl, by decide, fun x h => by cases h⟩
theorem mok_305 : ev_mP (em_305, none) := ⟨⟨_, rfl⟩, plainFor_of_name (by decide), rfl, by decide, fun x h => by cases h⟩
theorem mok_306 : ev_mP (em_306, none) := ⟨⟨_, rfl⟩, plainFor_of_name (by decide), rfl, by decide, fun x h => by cases h⟩
theorem mok_307 : ev_mP (em_307, none) := ⟨⟨_, rfl⟩, plainFor_of_name (by decide), rfl, by decide, fun x h => by cases h⟩
theorem mok_308 : ev_mP (em_308, none) := ⟨⟨_, rfl⟩, plainFor_of_name (by decide), rfl, by decide, fun x h => by cases h⟩
theorem mok_309 : ev_mP (em_309, none) := ⟨⟨_, rfl⟩, plainFor_of_name (by decide), rfl, by decide, fun x h => by cases h⟩
theorem mok_310 : ev_mP (em_310, none) := ⟨⟨_, rfl⟩, plainFor_of_name (by decide), rfl, by decide, fun x h => by cases h⟩
theorem mok_311 : ev_mP (em_311, none) := ⟨⟨_, rfl⟩, plainFor_of_name (by decide), rfl, by decide, fun x h => by cases h⟩
theorem mok_312 : ev_mP (em_312, none) := ⟨⟨_, rfl⟩, plainFor_of_name (by decide), rfl, by decide, fun x h => by cases h⟩
theorem mok_313 : ev_mP (em_313, none) := ⟨⟨_, rfl⟩, plainFor_of_name (by decide), rfl, by decide, fun x h => by cases h⟩
theorem mok_314 : ev_mP (em_314, none) := ⟨⟨_, rfl⟩, plainFor_of_name (by decide), rfl, by decide, fun x h => by cases h⟩
theorem mok_315 : ev_mP (em_315, none) := ⟨⟨_, rfl⟩, plainFor_of_name (by decide), rfl, by decide, fun x h => by cases h⟩
theorem mok_316 : ev_mP (em_316, none) := ⟨⟨_, rfl⟩, plainFor_of_name (by decide), rfl, by decide, fun x h => by cases h⟩
theorem mok_317 : ev_mP (em_317, none) := ⟨⟨_, rfl⟩, plainFor_of_name (by decide), rfl, by decide, fun x h => by cases h⟩
theorem mok_318 : ev_mP (em_318, none) := ⟨⟨_, rfl⟩, plainFor_of_name (by decide), rfl, by decide, fun x h => by cases h⟩
theorem mok_319 : ev_mP (em_319, none) := ⟨⟨_, rfl⟩, plainFor_of_name (by decide), rfl, by decide, fun x h => by cases h⟩
theorem mok_320 : ev_mP (em_320, none) := ⟨⟨_, rfl⟩, plainFor_of_name (by decide), rfl, by decide, fun x h => by cases h⟩
theorem mok_321 : ev_mP (em_321, none) := ⟨⟨_, rfl⟩, plainFor_of_name (by decide), rfl, by decide, fun x h => by cases h⟩
theorem mok_322 : ev_mP (em_322, none) := ⟨⟨_, rfl⟩, plainFor_of_name (by decide), rfl, by decide, fun x h => by cases h⟩
theorem mok_323 : ev_mP (em_323, none) := ⟨⟨_, rfl⟩, plainFor_of_name (by decide), rfl, by decide, fun x h => by cases h⟩
theorem mok_324 : ev_mP (em_324, none) := ⟨⟨_, rfl⟩, plainFor_of_name (by decide), rfl, by decide, fun x h => by cases h⟩
theorem mok_325 : ev_mP (em_325, none) := ⟨⟨_, rfl⟩, plainFor_of_name (by decide), rfl, by decide, fun x h => by cases h⟩
theorem mok_326 : ev_mP (em_326, none) := ⟨⟨_, rfl⟩, plainFor_of_name (by decide), rfl, by decide, fun x h => by cases h⟩
theorem mok_327 : ev_mP (em_327, none) := ⟨⟨_, rfl⟩, plainFor_of_name (by decide), rfl, by decide, fun x h => by cases h⟩
theorem mok_328 : ev_mP (em_328, none) := ⟨⟨_, rfl⟩, plainFor_of_name (by decide), rfl, by decide, fun x h => by cases h⟩
theorem mok_329 : ev_mP (em_329, none) := ⟨⟨_, rfl⟩, plainFor_of_name (by decide), rfl, by decide, fun x h => by cases h⟩
theorem mok_330 : ev_mP (em_330, none) := ⟨⟨_, rfl⟩, plainFor_of_name (by decide), rfl, by decide, fun x h => by cases h⟩
theorem mok_331 : ev_mP (em_331, none) := ⟨⟨_, rfl⟩, plainFor_of_name (by decide), rfl, by decide, fun x h => by cases h⟩
theorem mok_332 : ev_mP (em_332, none) := ⟨⟨_, rfl⟩, plainFor_of_name (by decide), rfl, by decide, fun x h => by cases h⟩
theorem mok_333 : ev_mP (em_333, none) := ⟨⟨_, rfl⟩, plainFor_of_name (by decide), rfl, by decide, fun x h => by cases h⟩
theorem mok_334 : ev_mP (em_334, none) := ⟨⟨_, rfl⟩, plainFor_of_name (by decide), rfl, by decide, fun x h => by cases h⟩
theorem mok_335 : ev_mP (em_335, none) := ⟨⟨_, rfl⟩, plainFor_of_name (by decide), rfl, by decide, fun x h => by cases h⟩
theorem mok_336 : ev_mP (em_336, none) := ⟨⟨_, rfl⟩, plainFor_of_name (by decide), rfl, by decide, fun x h => by cases h⟩
theorem mok_337 : ev_mP (em_337, none) := ⟨⟨_, rfl⟩, plainFor_of_name (by decide), rfl, by decide, fun x h => by cases h⟩
theorem mok_338 : ev_mP (em_338, none) := ⟨⟨_, rfl⟩, plainFor_of_name (by decide), rfl, by decide, fun x h => by cases h⟩
theorem mok_339 : ev_mP (em_339, none) := ⟨⟨_, rfl⟩, plainFor_of_name (by decide), rfl, by decide, fun x h => by cases h⟩
theorem mok_340 : ev_mP (em_340, none) := ⟨⟨_, rfl⟩, plainFor_of_name (by decide), rfl, by decide, fun x h => by cases h⟩
theorem mok_341 : ev_mP (em_341, none) := ⟨⟨_, rfl⟩, plainFor_of_name (by decide), rfl, by decide, fun x h => by cases h⟩
theorem mok_342 : ev_mP (em_342, none) := ⟨⟨_, rfl⟩, plainFor_of_name (by decide), rfl, by decide, fun x h => by cases h⟩
theorem mok_343 : ev_mP (em_343, none) := ⟨⟨_, rfl⟩, plainFor_of_name (by decide), rfl, by decide, fun x h => by cases h⟩
theorem mok_344 : ev_mP (em_344, none) := ⟨⟨_, rfl⟩, plainFor_of_name (by decide), rfl, by decide, fun x h => by cases h⟩
theorem mok_345 : ev_mP (em_345, none) := ⟨⟨_, rfl⟩, plainFor_of_name (by decide), rfl, by decide, fun x h => by cases h⟩
theorem mok_346 : ev_mP (em_346, none) := ⟨⟨_, rfl⟩, plainFor_of_name (by decide), rfl, by decide, fun x h => by cases h⟩
theorem mok_347 : ev_mP (em_347, none) := ⟨⟨_, rfl⟩, plainFor_of_name (by decide), rfl, by decide, fun x h => by cases h⟩
theorem mok_348 : ev_mP (em_348, none) := ⟨⟨_, rfl⟩, plainFor_of_name (by decide), rfl, by decide, fun x h => by cases h⟩
theorem mok_349 : ev_mP (em_349, none) := ⟨⟨_, rfl⟩, plainFor_of_name (by decide), rfl, by decide, fun x h => by cases h⟩
theorem mok_350 : ev_mP (em_350, none) := ⟨⟨_, rfl⟩, plainFor_of_name (by decide), rfl, by decide, fun x h => by cases h⟩
theorem mok_351 : ev_mP (em_351, none) := ⟨⟨_, rfl⟩, plainFor_of_name (by decide), rfl, by decide, fun x h => by cases h⟩
theorem mok_352 : ev_mP (em_352, none) := ⟨⟨_, rfl⟩, plainFor_of_name (by decide), rfl, by decide, fun x h => by cases h⟩
theorem mok_353 : ev_mP (em_353, none) := ⟨⟨_, rfl⟩, plainFor_of_name (by decide), rfl, by decide, fun x h => by cases h⟩
theorem mok_354 : ev_mP (em_354, none) := ⟨⟨_, rfl⟩, plainFor_of_name (by decide), rfl, by decide, fun x h => by cases h⟩
theorem mok_355 : ev_mP (em_355, none) := ⟨⟨_, rfl⟩, plainFor_of_name (by decide), rfl, by decide, fun x h => by cases h⟩
theorem mok_356 : ev_mP (em_356, none) := ⟨⟨_, rfl⟩, plainFor_of_name (by decide), rfl, by decide, fun x h => by cases h⟩
theorem mok_357 : ev_mP (em_357, none) := ⟨⟨_, rfl⟩, plainFor_of_name (by decide), rfl, by decide, fun x h => by cases h⟩
theorem mok_358 : ev_mP (em_358, none) := ⟨⟨_, rfl⟩, plainFor_of_name (by decide), rfl, by decide, fun x h => by cases h⟩
theorem mok_359 : ev_mP (em_359, none) := ⟨⟨_, rfl⟩, plainFor_of_name (by decide), rfl, by decide, fun x h => by cases h⟩
theorem mok_360 : ev_mP (em_360, none) := ⟨⟨_, rfl⟩, plainFor_of_name (by decide), rfl, by decide, fun x h => by cases h⟩
theorem mok_361 : ev_mP (em_361, none) := ⟨⟨_, rfl⟩, plainFor_of_name (by decide), rfl, by decide, fun x h => by cases h⟩
theorem mok_362 : ev_mP (em_362, none) := ⟨⟨_, rfl⟩, plainFor_of_name (by decide), rfl, by decide, fun x h => by cases h⟩
theorem mok_363 : ev_mP (em_363, none) := ⟨⟨_, rfl⟩, plainFor_of_name (by decide), rfl, by decide, fun x h => by cases h⟩
theorem mok_364 : ev_mP (em_364, none) := ⟨⟨_, rfl⟩, plainFor_of_name (by decide), rfl, by decide, fun x h => by cases h⟩
theorem mok_365 : ev_mP (em_365, none) := ⟨⟨_, rfl⟩, plainFor_of_name (by decide), rfl, by decide, fun x h => by cases h⟩
theorem mok_366 : ev_mP (em_366, none) := ⟨⟨_, rfl⟩, plainFor_of_name (by decide), rfl, by decide, fun x h => by cases h⟩
theorem mok_367 : ev_mP (em_367, none) := ⟨⟨_, rfl⟩, plainFor_of_name (by decide), rfl, by decide, fun x h => by cases h⟩
theorem mok_368 : ev_mP (em_368, none) := ⟨⟨_, rfl⟩, plainFor_of_name (by decide), rfl, by decide, fun x h => by cases h⟩
theorem mok_369 : ev_mP (em_369, none) := ⟨⟨_, rfl⟩, plainFor_of_name (by decide), rfl, by decide, fun x h => by cases h⟩
theorem mok_370 : ev_mP (em_370, none) := ⟨⟨_, rfl⟩, plainFor_of_name (by decide), rfl, by decide, fun x h => by cases h⟩
theorem mok_371 : ev_mP (em_371, none) := ⟨⟨_, rfl⟩, plainFor_of_name (by decide), rfl, by decide, fun x h => by cases h⟩
theorem mok_372 : ev_mP (em_372, none) := ⟨⟨_, rfl⟩, plainFor_of_name (by decide), rfl, by decide, fun x h => by cases h⟩
theorem mok_373 : ev_mP (em_373, none) := ⟨⟨_, rfl⟩, plainFor_of_name (by decide), rfl, by decide, fun x h => by cases h⟩
theorem mok_374 : ev_mP (em_374, none) := ⟨⟨_, rfl⟩, plainFor_of_name (by decide), rfl, by decide, fun x h => by cases h⟩
theorem mok_375 : ev_mP (em_375, none) := ⟨⟨_, rfl⟩, plainFor_of_name (by decide), rfl, by decide, fun x h => by cases h⟩
theorem mok_376 : ev_mP (em_376, none) := ⟨⟨_, rfl⟩, plainFor_of_name (by decide), rfl, by decide, fun x h => by cases h⟩
theorem mok_377 : ev_mP (em_377, none) := ⟨⟨_, rfl⟩, plainFor_of_name (by decide), rfl, by decide, fun x h => by cases h⟩
theorem mok_378 : ev_mP (em_378, none) := ⟨⟨_, rfl⟩, plainFor_of_name (by decide), rfl, by decide, fun x h => by cases h⟩
theorem mok_379 : ev_mP (em_379, none) := ⟨⟨_, rfl⟩, plainFor_of_name (by decide), rfl, by decide, fun x h => by cases h⟩
theorem mok_380 : ev_mP (em_380, none) := ⟨⟨_, rfl⟩, plainFor_of_name (by decide), rfl, by decide, fun x h => by cases h⟩
theorem mok_381 : ev_mP (em_381, none) := ⟨⟨_, rfl⟩, plainFor_of_name (by decide), rfl, by decide, fun x h => by cases h⟩
theorem mok_382 : ev_mP (em_382, none) := ⟨⟨_, rfl⟩, plainFor_of_name (by decide), rfl, by decide, fun x h => by cases h⟩
theorem mok_383 : ev_mP (em_383, none) := ⟨⟨_, rfl⟩, plainFor_of_name (by decide), rfl, by decide, fun x h => by cases h⟩
theorem mok_384 : ev_mP (em_384, none) := ⟨⟨_, rfl⟩, plainFor_of_name (by decide), rfl, by decide, fun x h => by cases h⟩
theorem mok_385 : ev_mP (em_385, none) := ⟨⟨_, rfl⟩, plainFor_of_name (by decide), rfl, by decide, fun x h => by cases h⟩
theorem mok_386 : ev_mP (em_386, none) := ⟨⟨_, rfl⟩, plainFor_of_name (by decide), rfl, by decide, fun x h => by cases h⟩
theorem mok_387 : ev_mP (em_387, none) := ⟨⟨_, rfl⟩, plainFor_of_name (by decide), rfl, by decide, fun x h => by cases h⟩
theorem mok_388 : ev_mP (em_388, none) := ⟨⟨_, rfl⟩, plainFor_of_name (by decide), rfl, by decide, fun x h => by cases h⟩
theorem mok_389 : ev_mP (em_389, none) := ⟨⟨_, rfl⟩, plainFor_of_name (by decide), rfl, by decide, fun x h => by cases h⟩
theorem mok_390 : ev_mP (em_390, none) := ⟨⟨_, rfl⟩, plainFor_of_name (by decide), rfl, by decide, fun x h => by cases h⟩
theorem mok_391 : ev_mP (em_391, none) := ⟨⟨_, rfl⟩, plainFor_of_name (by decide), rfl, by decide, fun x h => by cases h⟩
theorem mok_392 : ev_mP (em_392, none) := ⟨⟨_, rfl⟩, plainFor_of_name (by decide), rfl, by decide, fun x h => by cases h⟩
theorem mok_393 : ev_mP (em_393, none) := ⟨⟨_, rfl⟩, plainFor_of_name (by decide), rfl, by decide, fun x h => by cases h⟩
theorem mok_394 : ev_mP (em_394, none) := ⟨⟨_, rfl⟩, plainFor_of_name (by decide), rfl, by decide, fun x h => by cases h⟩
theorem mok_395 : ev_mP (em_395, none) := ⟨⟨_, rfl⟩, plainFor_of_name (by decide), rfl, by decide, fun x h => by cases h⟩
theorem mok_396 : ev_mP (em_396, none) := ⟨⟨_, rfl⟩, plainFor_of_name (by decide), rfl, by decide, fun x h => by cases h⟩
theorem mok_397 : ev_mP (em_397, none) := ⟨⟨_, rfl⟩, plainFor_of_name (by decide), rfl, by decide, fun x h => by cases h⟩
theorem mok_398 : ev_mP (em_398, none) := ⟨⟨_, rfl⟩, plainFor_of_name (by decide), rfl, by decide, fun x h => by cases h⟩
theorem mok_399 : ev_mP (em_399, none) := ⟨⟨_, rfl⟩, plainFor_of_name (by decide), rfl, by decide, fun x h => by cases h⟩
theorem mok_400 : ev_mP (em_400, none) := ⟨⟨_, rfl⟩, plainFor_of_name (by decide), rfl, by decide, fun x h => by cases h⟩
theorem mok_401 : ev_mP (em_401, none) := ⟨⟨_, rfl⟩, plainFor_of_name (by decide), rfl, by decide, fun x h => by cases h⟩
theorem mok_402 : ev_mP (em_402, none) := ⟨⟨_, rfl⟩, plainFor_of_name (by decide), rfl, by decide, fun x h => by cases h⟩
theorem mok_403 : ev_mP (em_403, none) := ⟨⟨_, rfl⟩, plainFor_of_name (by decide), rfl, by decide, fun x h => by cases h⟩
theorem mok_404 : ev_mP (em_404, none) := ⟨⟨_, rfl⟩, plainFor_of_name (by decide), rfl, by decide, fun x h => by cases h⟩
theorem mok_405 : ev_mP (em_405, none) := ⟨⟨_, rfl⟩, plainFor_of_name (by decide), rfl, by decide, fun x h => by cases h⟩
theorem mok_406 : ev_mP (em_406, none) := ⟨⟨_, rfl⟩, plainFor_of_name (by decide), rfl, by decide, fun x h => by cases h⟩
theorem mok_407 : ev_mP (em_407, none) := ⟨⟨_, rfl⟩, plainFor_of_name (by decide), rfl, by decide, fun x h => by cases h⟩
theorem mok_408 : ev_mP (em_408, none) := ⟨⟨_, rfl⟩, plainFor_of_name (by decide), rfl, by decide, fun x h => by cases h⟩
theorem mok_409 : ev_mP (em_409, none) := ⟨⟨_, rfl⟩, plainFor_of_name (by decide), rfl, by decide, fun x h => by cases h⟩
theorem mok_410 : ev_mP (em_410, none) := ⟨⟨_, rfl⟩, plainFor_of_name (by decide), rfl, by decide, fun x h => by cases h⟩
theorem mok_411 : ev_mP (em_411, none) := ⟨⟨_, rfl⟩, plainFor_of_name (by decide), rfl, by decide, fun x h => by cases h⟩
theorem mok_412 : ev_mP (em_412, none) := ⟨⟨_, rfl⟩, plainFor_of_name (by decide), rfl, by decide, fun x h => by cases h⟩
theorem mok_413 : ev_mP (em_413, none) := ⟨⟨_, rfl⟩, plainFor_of_name (by decide), rfl, by decide, fun x h => by cases h⟩
theorem mok_414 : ev_mP (em_414, none) := ⟨⟨_, rfl⟩, plainFor_of_name (by decide), rfl, by decide, fun x h => by cases h⟩
theorem mok_415 : ev_mP (em_415, none) := ⟨⟨_, rfl⟩, plainFor_of_name (by decide), rfl, by decide, fun x h => by cases h⟩
theorem mok_416 : ev_mP (em_416, none) := ⟨⟨_, rfl⟩, plainFor_of_name (by decide), rfl, by decide, fun x h => by cases h⟩
theorem mok_417 : ev_mP (em_417, none) := ⟨⟨_, rfl⟩, plainFor_of_name (by decide), rfl, by decide, fun x h => by cases h⟩
theorem mok_418 : ev_mP (em_418, none) := ⟨⟨_, rfl⟩, plainFor_of_name (by decide), rfl, by decide, fun x h => by cases h⟩
theorem mok_419 : ev_mP (em_419, none) := ⟨⟨_, rfl⟩, plainFor_of_name (by decide), rfl, by decide, fun x h => by cases h⟩
theorem mok_420 : ev_mP (em_420, none) := ⟨⟨_, rfl⟩, plainFor_of_name (by decide), rfl, by decide, fun x h => by cases h⟩
theorem mok_421 : ev_mP (em_421, none) := ⟨⟨_, rfl⟩, plainFor_of_name (by decide), rfl, by decide, fun x h => by cases h⟩
theorem mok_422 : ev_mP (em_422, none) := ⟨⟨_, rfl⟩, plainFor_of_name (by decide), rfl, by decide, fun x h => by cases h⟩
theorem mok_423 : ev_mP (em_423, none) := ⟨⟨_, rfl⟩, plainFor_of_name (by decide), rfl, by decide, fun x h => by cases h⟩
theorem mok_424 : ev_mP (em_424, none) := ⟨⟨_, rfl⟩, plainFor_of_name (by decide), rfl, by decide, fun x h => by cases h⟩
theorem mok_425 : ev_mP (em_425, none) := ⟨⟨_, rfl⟩, plainFor_of_name (by decide), rfl, by decide, fun x h => by cases h⟩
theorem mok_426 : ev_mP (em_426, none) := ⟨⟨_, rfl⟩, plainFor_of_name (by decide), rfl, by decide, fun x h => by cases h⟩
theorem mok_427 : ev_mP (em_427, none) := ⟨⟨_, rfl⟩, plainFor_of_name (by decide), rfl, by decide, fun x h => by cases h⟩
theorem mok_428 : ev_mP (em_428, none) := ⟨⟨_, rfl⟩, plainFor_of_name (by decide), rfl, by decide, fun x h => by cases h⟩
theorem mok_429 : ev_mP (em_429, none) := ⟨⟨_, rfl⟩, plainFor_of_name (by decide), rfl, by decide, fun x h => by cases h⟩
theorem mok_430 : ev_mP (em_430, none) := ⟨⟨_, rfl⟩, plainFor_of_name (by decide), rfl, by decide, fun x h => by cases h⟩
theorem mok_431 : ev_mP (em_431, none) := ⟨⟨_, rfl⟩, plainFor_of_name (by decide), rfl, by decide, fun x h => by cases h⟩
theorem mok_432 : ev_mP (em_432, none) := ⟨⟨_, rfl⟩, plainFor_of_name (by decide), rfl, by decide, fun x h => by cases h⟩
theorem mok_433 : ev_mP (em_433, none) := ⟨⟨_, rfl⟩, plainFor_of_name (by decide), rfl, by decide, fun x h => by cases h⟩
theorem mok_434 : ev_mP (em_434, none) := ⟨⟨_, rfl⟩, plainFor_of_name (by decide), rfl, by decide, fun x h => by cases h⟩
theorem mok_435 : ev_mP (em_435, none) := ⟨⟨_, rfl⟩, plainFor_of_name (by decide), rfl, by decide, fun x h => by cases h⟩
theorem mok_436 : ev_mP (em_436, none) := ⟨⟨_, rfl⟩, plainFor_of_name (by decide), rfl, by decide, fun x h => by cases h⟩
theorem mok_437 : ev_mP (em_437, none) := ⟨⟨_, rfl⟩, plainFor_of_name (by decide), rfl, by decide, fun x h => by cases h⟩
theorem mok_438 : ev_mP (em_438, some (65, 105, 108, 7)) := ⟨⟨_, rfl⟩, plainFor_of_name (by decide), rfl, by decide, fun x h => by cases h; exact ⟨by decide, ev_mc bw_1455⟩⟩
theorem mok_439 : ev_mP (em_439, none) := ⟨⟨_, rfl⟩, plainFor_of_name (by decide), rfl, by decide, fun x h => by cases h⟩
theorem mok_440 : ev_mP (em_440, none) := ⟨⟨_, rfl⟩, plainFor_of_name (by decide), rfl, by decide, fun x h => by cases h⟩
theorem mok_441 : ev_mP (em_441, none) := ⟨⟨_, rfl⟩, plainFor_of_name (by decide), rfl, by decide, fun x h => by cases h⟩
theorem mok_442 : ev_mP (em_442, none) := ⟨⟨_, rfl⟩, plainFor_of_name (by decide), rfl, by decide, fun x h => by cases h⟩
theorem mok_443 : ev_mP (em_443, none) := ⟨⟨_, rfl⟩, plainFor_of_name (by decide), rfl, by decide, fun x h => by cases h⟩
theorem mok_444 : ev_mP (em_444, none) := ⟨⟨_, rfl⟩, plainFor_of_name (by decide), rfl, by decide, fun x h => by cases h⟩
theorem mok_445 : ev_mP (em_445, none) := ⟨⟨_, rfl⟩, plainFor_of_name (by decide), rfl, by decide, fun x h => by cases h⟩
theorem mok_446 : ev_mP (em_446, none) := ⟨⟨_, rfl⟩, plainFor_of_name (by decide), rfl, by decide, fun x h => by cases h⟩
theorem mok_447 : ev_mP (em_447, none) := ⟨⟨_, rfl⟩, plainFor_of_name (by decide), rfl, by decide, fun x h => by cases h⟩
theorem mok_448 : ev_mP (em_448, none) := ⟨⟨_, rfl⟩, plainFor_of_name (by decide), rfl, by decide, fun x h => by cases h⟩
theorem mok_449 : ev_mP (em_449, none) := ⟨⟨_, rfl⟩, plainFor_of_name (by decide), rfl, by decide, fun x h => by cases h⟩
theorem mok_450 : ev_mP (em_450, none) := ⟨⟨_, rfl⟩, plainFor_of_name (by decide), rfl, by decide, fun x h => by cases h⟩
theorem mok_451 : ev_mP (em_451, none) := ⟨⟨_, rfl⟩, plainFor_of_name (by decide), rfl, by decide, fun x h => by cases h⟩
theorem mok_452 : ev_mP (em_452, none) := ⟨⟨_, rfl⟩, plainFor_of_name (by decide), rfl, by decide, fun x h => by cases h⟩
theorem mok_453 : ev_mP (em_453, none) := ⟨⟨_, rfl⟩, plainFor_of_name (by decide), rfl, by decide, fun x h => by cases h⟩
theorem mok_454 : ev_mP (em_454, none) := ⟨⟨_, rfl⟩, plainFor_of_name (by decide), rfl, by decide, fun x h => by cases h⟩
theorem mok_455 : ev_mP (em_455, none) := ⟨⟨_, rfl⟩, plainFor_of_name (by decide), rfl, by decide, fun x h => by cases h⟩
theorem mok_456 : ev_mP (em_456, none) := ⟨⟨_, rfl⟩, plainFor_of_name (by decide), rfl, by decide, fun x h => by cases h⟩
theorem mok_457 : ev_mP (em_457, none) := ⟨⟨_, rfl⟩, plainFor_of_name (by decide), rfl, by decide, fun x h => by cases h⟩
theorem mok_458 : ev_mP (em_458, none) := ⟨⟨_, rfl⟩, plainFor_of_name (by decide), rfl, by decide, fun x h => by cases h⟩
theorem mok_459 : ev_mP (em_459, none) := ⟨⟨_, rfl⟩, plainFor_of_name (by decide), rfl, by decide, fun x h => by cases h⟩
theorem mok_460 : ev_mP (em_460, none) := ⟨⟨_, rfl⟩, plainFor_of_name (by decide), rfl, by decide, fun x h => by cases h⟩
theorem mok_461 : ev_mP (em_461, none) := ⟨⟨_, rfl⟩, plainFor_of_name (by decide), rfl, by decide, fun x h => by cases h⟩
theorem mok_462 : ev_mP (em_462, none) := ⟨⟨_, rfl⟩, plainFor_of_name (by decide), rfl, by decide, fun x h => by cases h⟩
theorem mok_463 : ev_mP (em_463, none) := ⟨⟨_, rfl⟩, plainFor_of_name (by decide), rfl, by decide, fun x h => by cases h⟩
theorem mok_464 : ev_mP (em_464, none) := ⟨⟨_, rfl⟩, plainFor_of_name (by decide), rfl, by decide, fun x h => by cases h⟩
theorem mok_465 : ev_mP (em_465, none) := ⟨⟨_, rfl⟩, plainFor_of_name (by decide), rfl, by decide, fun x h => by cases h⟩
theorem mok_466 : ev_mP (em_466, none) := ⟨⟨_, rfl⟩, plainFor_of_name (by decide), rfl, by decide, fun x h => by cases h⟩
theorem mok_467 : ev_mP (em_467, none) := ⟨⟨_, rfl⟩, plainFor_of_name (by decide), rfl, by decide, fun x h => by cases h⟩
theorem mok_468 : ev_mP (em_468, none) := ⟨⟨_, rfl⟩, plainFor_of_name (by decide), rfl, by decide, fun x h => by cases h⟩
theorem mok_469 : ev_mP (em_469, none) := ⟨⟨_, rfl⟩, plainFor_of_name (by decide), rfl, by decide, fun x h => by cases h⟩
theorem mok_470 : ev_mP (em_470, none) := ⟨⟨_, rfl⟩, plainFor_of_name (by decide), rfl, by decide, fun x h => by cases h⟩
theorem mok_471 : ev_mP (em_471, none) := ⟨⟨_, rfl⟩, plainFor_of_name (by decide), rfl, by decide, fun x h => by cases h⟩
theorem mok_472 : ev_mP (em_472, none) := ⟨⟨_, rfl⟩, plainFor_of_name (by decide), rfl, by decide, fun x h => by cases h⟩
theorem mok_473 : ev_mP (em_473, none) := ⟨⟨_, rfl⟩, plainFor_of_name (by decide), rfl, by decide, fun x h => by cases h⟩
theorem mok_474 : ev_mP (em_474, none) := ⟨⟨_, rfl⟩, plainFor_of_name (by decide), rfl, by decide, fun x h => by cases h⟩
theorem mok_475 : ev_mP (em_475, none) := ⟨⟨_, rfl⟩, plainFor_of_name (by decide), rfl, by decide, fun x h => by cases h⟩
theorem mok_476 : ev_mP (em_476, none) := ⟨⟨_, rfl⟩, plainFor_of_name (by decide), rfl, by decide, fun x h => by cases h⟩
theorem mok_477 : ev_mP (em_477, none) := ⟨⟨_, rfl⟩, plainFor_of_name (by decide), rfl, by decide, fun x h => by cases h⟩
theorem mok_478 : ev_mP (em_478, none) := ⟨⟨_, rfl⟩, plainFor_of_name (by decide), rfl, by decide, fun x h => by cases h⟩
theorem mok_479 : ev_mP (em_479, none) := ⟨⟨_, rfl⟩, plainFor_of_name (by decide), rfl, by decide, fun x h => by cases h⟩
theorem mok_480 : ev_mP (em_480, some (0, 26, 29, 7)) := ⟨⟨_, rfl⟩, plainFor_of_name (by decide), rfl, by decide, fun x h => by cases h; exact ⟨by decide, ev_mc bw_1455⟩⟩
theorem mok_481 : ev_mP (em_481, none) := ⟨⟨_, rfl⟩, plainFor_of_name (by decide), rfl, by decide, fun x h => by cases h⟩
theorem mok_482 : ev_mP (em_482, none) := ⟨⟨_, rfl⟩, plainFor_of_name (by decide), rfl, by decide, fun x h => by cases h⟩
theorem mok_483 : ev_mP (em_483, none) := ⟨⟨_, rfl⟩, plainFor_of_name (by decide), rfl, by decide, fun x h => by cases h⟩
theorem mok_484 : ev_mP (em_484, none) := ⟨⟨_, rfl⟩, plainFor_of_name (by decide), rfl, by decide, fun x h => by cases h⟩
theorem mok_485 : ev_mP (em_485, none) := ⟨⟨_, rfl⟩, plainFor_of_name (by decide), rfl, by decide, fun x h => by cases h⟩
theorem mok_486 : ev_mP (em_486, none) := ⟨⟨_, rfl⟩, plainFor_of_name (by decide), rfl, by decide, fun x h => by cases h⟩
theorem mok_487 : ev_mP (em_487, some (24, 151, 154, 7)) := ⟨⟨_, rfl⟩, plainFor_of_name (by decide), rfl, by decide, fun x h => by cases h; exact ⟨by decide, ev_mc bw_1455⟩⟩
theorem mok_488 : ev_mP (em_488, none) := ⟨⟨_, rfl⟩, plainFor_of_name (by decide), rfl, by decide, fun x h => by cases h⟩
theorem mok_489 : ev_mP (em_489, none) := ⟨⟨_, rfl⟩, plainFor_of_name (by decide), rfl, by decide, fun x h => by cases h⟩
theorem mok_490 : ev_mP (em_490, none) := ⟨⟨_, rfl⟩, plainFor_of_name (by decide), rfl, by decide, fun x h => by cases h⟩
theorem mok_491 : ev_mP (em_491, none) := ⟨⟨_, rfl⟩, plainFor_of_name (by decide), rfl, by decide, fun x h => by cases h⟩
theorem mok_492 : ev_mP (em_492, none) := ⟨⟨_, rfl⟩, plainFor_of_name (by decide), rfl, by decide, fun x h => by cases h⟩
theorem mok_493 : ev_mP (em_493, none) := ⟨⟨_, rfl⟩, plainFor_of_name (by decide), rfl, by decide, fun x h => by cases h⟩
theorem mok_494 : ev_mP (em_494, none) := ⟨⟨_, rfl⟩, plainFor_of_name (by decide), rfl, by decide, fun x h => by cases h⟩
theorem mok_495 : ev_mP (em_495, none) := ⟨⟨_, rfl⟩, plainFor_of_name (by decide), rfl, by decide, fun x h => by cases h⟩
theorem mok_496 : ev_mP (em_496, none) := ⟨⟨_, rfl⟩, plainFor_of_name (by decide), rfl, by decide, fun x h => by cases h⟩
theorem mok_497 : ev_mP (em_497, none) := ⟨⟨_, rfl⟩, plainFor_of_name (by decide), rfl, by decide, fun x h => by cases h⟩
theorem mok_498 : ev_mP (em_498, none) := ⟨⟨_, rfl⟩, plainFor_of_name (by decide), rfl, by decide, fun x h => by cases h⟩
theorem mok_499 : ev_mP (em_499, none) := ⟨⟨_, rfl⟩, plainFor_of_name (by decide), rfl, by decide, fun x h => by cases h⟩
theorem mok_500 : ev_mP (em_500, none) := ⟨⟨_, rfl⟩, plainFor_of_name (by decide), rfl, by decide, fun x h => by cases h⟩
theorem mok_501 : ev_mP (em_501, none) := ⟨⟨_, rfl⟩, plainFor_of_name (by decide), rfl, by decide, fun x h => by cases h⟩
theorem mok_502 : ev_mP (em_502, none) := ⟨⟨_, rfl⟩, plainFor_of_name (by decide), rfl, by decide, fun x h => by cases h⟩
theorem mok_503 : ev_mP (em_503, none) := ⟨⟨_, rfl⟩, plainFor_of_name (by decide), rfl, by decide, fun x h => by cases h⟩
theorem mok_504 : ev_mP (em_504, none) := ⟨⟨_, rfl⟩, plainFor_of_name (by decide), rfl, by decide, fun x h => by cases h⟩
theorem mok_505 : ev_mP (em_505, none) := ⟨⟨_, rfl⟩, plainFor_of_name (by decide), rfl, by decide, fun x h => by cases h⟩
theorem mok_506 : ev_mP (em_506, none) := ⟨⟨_, rfl⟩, plainFor_of_name (by decide), rfl, by decide, fun x h => by cases h⟩
theorem mok_507 : ev_mP (em_507, none) := ⟨⟨_, rfl⟩, plainFor_of_name (by decide), rfl, by decide, fun x h => by cases h⟩
theorem mok_508 : ev_mP (em_508, none) := ⟨⟨_, rfl⟩, ev_math rfl (by decide +kernel), rfl, by decide, fun x h => by cases h⟩
theorem mok_509 : ev_mP (em_509, none) := ⟨⟨_, rfl⟩, ev_math rfl (by decide +kernel), rfl, by decide, fun x h => by cases h⟩
def ev_mh : Nat → ev_M × Option ev_H := fun k => bif Nat.ble k 254 then (bif Nat.ble k 126 then (bif Nat.ble k 62 then (bif Nat.ble k 30 then (bif Nat.ble k 14 then (bif Nat.ble k 6 then (bif Nat.ble k 2 then (bif Nat.ble k 0 then ((em_0, none)) else (bif Nat.ble k 1 then ((em_1, none)) else ((em_2, none)))) else (bif Nat.ble k 4 then (bif Nat.ble k 3 then ((em_3, none)) else ((em_4, none))) else (bif Nat.ble k 5 then ((em_5, none)) else ((em_6, none))))) else (bif Nat.ble k 10 then (bif Nat.ble k 8 then (bif Nat.ble k 7 then ((em_7, none)) else ((em_8, none))) else (bif Nat.ble k 9 then ((em_9, none)) else ((em_10, none)))) else (bif Nat.ble k 12 then (bif Nat.ble k 11 then ((em_11, none)) else ((em_12, none))) else (bif Nat.ble k 13 then ((em_13, none)) else ((em_14, none)))))) else (bif Nat.ble k 22 then (bif Nat.ble k 18 then (bif Nat.ble k 16 then (bif Nat.ble k 15 then ((em_15, none)) else ((em_16, none))) else (bif Nat.ble k 17 then ((em_17, none)) else ((em_18, none)))) else (bif Nat.ble k 20 then (bif Nat.ble k 19 then ((em_19, none)) else ((em_20, none))) else (bif Nat.ble k 21 then ((em_21, none)) else ((em_22, none))))) else (bif Nat.ble k 26 then (bif Nat.ble k 24 then (bif Nat.ble k 23 then ((em_23, none)) else ((em_24, none))) else (bif Nat.ble k 25 then ((em_25, none)) else ((em_26, none)))) else (bif Nat.ble k 28 then (bif Nat.ble k 27 then ((em_27, none)) else ((em_28, none))) else (bif Nat.ble k 29 then ((em_29, none)) else ((em_30, none))))))) else (bif Nat.ble k 46 then (bif Nat.ble k 38 then (bif Nat.ble k 34 then (bif Nat.ble k 32 then (bif Nat.ble k 31 then ((em_31, none)) else ((em_32, none))) else (bif Nat.ble k 33 then ((em_33, none)) else ((em_34, none)))) else (bif Nat.ble k 36 then (bif Nat.ble k 35 then ((em_35, none)) else ((em_36, none))) else (bif Nat.ble k 37 then ((em_37, none)) else ((em_38, none))))) else (bif Nat.ble k 42 then (bif Nat.ble k 40 then (bif Nat.ble k 39 then ((em_39, none)) else ((em_40, none))) else (bif Nat.ble k 41 then ((em_41, none)) else ((em_42, none)))) else (bif Nat.ble k 44 then (bif Nat.ble k 43 then ((em_43, none)) else ((em_44, none))) else (bif Nat.ble k 45 then ((em_45, none)) else ((em_46, none)))))) else (bif Nat.ble k 54 then (bif Nat.ble k 50 then (bif Nat.ble k 48 then (bif Nat.ble k 47 then ((em_47, none)) else ((em_48, none))) else (bif Nat.ble k 49 then ((em_49, none)) else ((em_50, none)))) else (bif Nat.ble k 52 then (bif Nat.ble k 51 then ((em_51, none)) else ((em_52, none))) else (bif Nat.ble k 53 then ((em_53, none)) else ((em_54, none))))) else (bif Nat.ble k 58 then (bif Nat.ble k 56 then (bif Nat.ble k 55 then ((em_55, none)) else ((em_56, none))) else (bif Nat.ble k 57 then ((em_57, none)) else ((em_58, none)))) else (bif Nat.ble k 60 then (bif Nat.ble k 59 then ((em_59, none)) else ((em_60, none))) else (bif Nat.ble k 61 then ((em_61, none)) else ((em_62, none)))))))) else (bif Nat.ble k 94 then (bif Nat.ble k 78 then (bif Nat.ble k 70 then (bif Nat.ble k 66 then (bif Nat.ble k 64 then (bif Nat.ble k 63 then ((em_63, none)) else ((em_64, none))) else (bif Nat.ble k 65 then ((em_65, none)) else ((em_66, none)))) else (bif Nat.ble k 68 then (bif Nat.ble k 67 then ((em_67, none)) else ((em_68, none))) else (bif Nat.ble k 69 then ((em_69, none)) else ((em_70, none))))) else (bif Nat.ble k 74 then (bif Nat.ble k 72 then (bif Nat.ble k 71 then ((em_71, none)) else ((em_72, none))) else (bif Nat.ble k 73 then ((em_73, none)) else ((em_74, none)))) else (bif Nat.ble k 76 then (bif Nat.ble k 75 then ((em_75, none)) else ((em_76, none))) else (bif Nat.ble k 77 then ((em_77, none)) else ((em_78, none)))))) else (bif Nat.ble k 86 then (bif Nat.ble k 82 then (bif Nat.ble k 80 then (bif Nat.ble k 79 then ((em_79, none)) else ((em_80, none))) else (bif Nat.ble k 81 then ((em_81, none)) else ((em_82, none)))) else (bif Nat.ble k 84 then (bif Nat.ble k 83 then ((em_83, none)) else ((em_84, none))) else (bif Nat.ble k 85 then ((em_85, none)) else ((em_86, none))))) else (bif Nat.ble k 90 then (bif Nat.ble k 88 then (bif Nat.ble k 87 then ((em_87, none)) else ((em_88, none))) else (bif Nat.ble k 89 then ((em_89, none)) else ((em_90, none)))) else (bif Nat.ble k 92 then (bif Nat.ble k 91 then ((em_91, none)) else ((em_92, none))) else (bif Nat.ble k 93 then ((em_93, none)) else ((em_94, none))))))) else (bif Nat.ble k 110 then (bif Nat.ble k 102 then (bif Nat.ble k 98 then (bif Nat.ble k 96 then (bif Nat.ble k 95 then ((em_95, none)) else ((em_96, none))) else (bif Nat.ble k 97 then ((em_97, none)) else ((em_98, none)))) else (bif Nat.ble k 100 then (bif Nat.ble k 99 then ((em_99, none)) else ((em_100, none))) else (bif Nat.ble k 101 then ((em_101, none)) else ((em_102, none))))) else (bif Nat.ble k 106 then (bif Nat.ble k 104 then (bif Nat.ble k 103 then ((em_103, none)) else ((em_104, none))) else (bif Nat.ble k 105 then ((em_105, none)) else ((em_106, none)))) else (bif Nat.ble k 108 then (bif Nat.ble k 107 then ((em_107, none)) else ((em_108, none))) else (bif Nat.ble k 109 then ((em_109, none)) else ((em_110, none)))))) else (bif Nat.ble k 118 then (bif Nat.ble k 114 then (bif Nat.ble k 112 then (bif Nat.ble k 111 then ((em_111, none)) else ((em_112, none))) else (bif Nat.ble k 113 then ((em_113, none)) else ((em_114, none)))) else (bif Nat.ble k 116 then (bif Nat.ble k 115 then ((em_115, none)) else ((em_116, none))) else (bif Nat.ble k 117 then ((em_117, none)) else ((em_118, none))))) else (bif Nat.ble k 122 then (bif Nat.ble k 120 then (bif Nat.ble k 119 then ((em_119, none)) else ((em_120, none))) else (bif Nat.ble k 121 then ((em_121, none)) else ((em_122, none)))) else (bif Nat.ble k 124 then (bif Nat.ble k 123 then ((em_123, none)) else ((em_124, none))) else (bif Nat.ble k 125 then ((em_125, none)) else ((em_126, none))))))))) else (bif Nat.ble k 190 then (bif Nat.ble k 158 then (bif Nat.ble k 142 then (bif Nat.ble k 134 then (bif Nat.ble k 130 then (bif Nat.ble k 128 then (bif Nat.ble k 127 then ((em_127, none)) else ((em_128, none))) else (bif Nat.ble k 129 then ((em_129, none)) else ((em_130, none)))) else (bif Nat.ble k 132 then (bif Nat.ble k 131 then ((em_131, none)) else ((em_132, none))) else (bif Nat.ble k 133 then ((em_133, none)) else ((em_134, none))))) else (bif Nat.ble k 138 then (bif Nat.ble k 136 then (bif Nat.ble k 135 then ((em_135, none)) else ((em_136, none))) else (bif Nat.ble k 137 then ((em_137, none)) else ((em_138, none)))) else (bif Nat.ble k 140 then (bif Nat.ble k 139 then ((em_139, none)) else ((em_140, none))) else (bif Nat.ble k 141 then ((em_141, none)) else ((em_142, none)))))) else (bif Nat.ble k 150 then (bif Nat.ble k 146 then (bif Nat.ble k 144 then (bif Nat.ble k 143 then ((em_143, none)) else ((em_144, none))) else (bif Nat.ble k 145 then ((em_145, none)) else ((em_146, none)))) else (bif Nat.ble k 148 then (bif Nat.ble k 147 then ((em_147, none)) else ((em_148, none))) else (bif Nat.ble k 149 then ((em_149, none)) else ((em_150, none))))) else (bif Nat.ble k 154 then (bif Nat.ble k 152 then (bif Nat.ble k 151 then ((em_151, none)) else ((em_152, none))) else (bif Nat.ble k 153 then ((em_153, none)) else ((em_154, none)))) else (bif Nat.ble k 156 then (bif Nat.ble k 155 then ((em_155, none)) else ((em_156, none))) else (bif Nat.ble k 157 then ((em_157, none)) else ((em_158, none))))))) else (bif Nat.ble k 174 then (bif Nat.ble k 166 then (bif Nat.ble k 162 then (bif Nat.ble k 160 then (bif Nat.ble k 159 then ((em_159, none)) else ((em_160, none))) else (bif Nat.ble k 161 then ((em_161, none)) else ((em_162, none)))) else (bif Nat.ble k 164 then (bif Nat.ble k 163 then ((em_163, none)) else ((em_164, none))) else (bif Nat.ble k 165 then ((em_165, none)) else ((em_166, none))))) else (bif Nat.ble k 170 then (bif Nat.ble k 168 then (bif Nat.ble k 167 then ((em_167, none)) else ((em_168, none))) else (bif Nat.ble k 169 then ((em_169, none)) else ((em_170, none)))) else (bif Nat.ble k 172 then (bif Nat.ble k 171 then ((em_171, none)) else ((em_172, none))) else (bif Nat.ble k 173 then ((em_173, none)) else ((em_174, none)))))) else (bif Nat.ble k 182 then (bif Nat.ble k 178 then (bif Nat.ble k 176 then (bif Nat.ble k 175 then ((em_175, none)) else ((em_176, none))) else (bif Nat.ble k 177 then ((em_177, none)) else ((em_178, none)))) else (bif Nat.ble k 180 then (bif Nat.ble k 179 then ((em_179, none)) else ((em_180, none))) else (bif Nat.ble k 181 then ((em_181, none)) else ((em_182, none))))) else (bif Nat.ble k 186 then (bif Nat.ble k 184 then (bif Nat.ble k 183 then ((em_183, none)) else ((em_184, none))) else (bif Nat.ble k 185 then ((em_185, none)) else ((em_186, none)))) else (bif Nat.ble k 188 then (bif Nat.ble k 187 then ((em_187, none)) else ((em_188, none))) else (bif Nat.ble k 189 then ((em_189, none)) else ((em_190, none)))))))) else (bif Nat.ble k 222 then (bif Nat.ble k 206 then (bif Nat.ble k 198 then (bif Nat.ble k 194 then (bif Nat.ble k 192 then (bif Nat.ble k 191 then ((em_191, none)) else ((em_192, none))) else (bif Nat.ble k 193 then ((em_193, none)) else ((em_194, none)))) else (bif Nat.ble k 196 then (bif Nat.ble k 195 then ((em_195, none)) else ((em_196, none))) else (bif Nat.ble k 197 then ((em_197, none)) else ((em_198, none))))) else (bif Nat.ble k 202 then (bif Nat.ble k 200 then (bif Nat.ble k 199 then ((em_199, none)) else ((em_200, none))) else (bif Nat.ble k 201 then ((em_201, none)) else ((em_202, none)))) else (bif Nat.ble k 204 then (bif Nat.ble k 203 then ((em_203, none)) else ((em_204, none))) else (bif Nat.ble k 205 then ((em_205, none)) else ((em_206, none)))))) else (bif Nat.ble k 214 then (bif Nat.ble k 210 then (bif Nat.ble k 208 then (bif Nat.ble k 207 then ((em_207, none)) else ((em_208, none))) else (bif Nat.ble k 209 then ((em_209, none)) else ((em_210, none)))) else (bif Nat.ble k 212 then (bif Nat.ble k 211 then ((em_211, none)) else ((em_212, none))) else (bif Nat.ble k 213 then ((em_213, none)) else ((em_214, none))))) else (bif Nat.ble k 218 then (bif Nat.ble k 216 then (bif Nat.ble k 215 then ((em_215, none)) else ((em_216, none))) else (bif Nat.ble k 217 then ((em_217, none)) else ((em_218, none)))) else (bif Nat.ble k 220 then (bif Nat.ble k 219 then ((em_219, none)) else ((em_220, none))) else (bif Nat.ble k 221 then ((em_221, none)) else ((em_222, none))))))) else (bif Nat.ble k 238 then (bif Nat.ble k 230 then (bif Nat.ble k 226 then (bif Nat.ble k 224 then (bif Nat.ble k 223 then ((em_223, none)) else ((em_224, none))) else (bif Nat.ble k 225 then ((em_225, none)) else ((em_226, none)))) else (bif Nat.ble k 228 then (bif Nat.ble k 227 then ((em_227, none)) else ((em_228, none))) else (bif Nat.ble k 229 then ((em_229, none)) else ((em_230, none))))) else (bif Nat.ble k 234 then (bif Nat.ble k 232 then (bif Nat.ble k 231 then ((em_231, none)) else ((em_232, none))) else (bif Nat.ble k 233 then ((em_233, none)) else ((em_234, none)))) else (bif Nat.ble k 236 then (bif Nat.ble k 235 then ((em_235, none)) else ((em_236, none))) else (bif Nat.ble k 237 then ((em_237, none)) else ((em_238, none)))))) else (bif Nat.ble k 246 then (bif Nat.ble k 242 then (bif Nat.ble k 240 then (bif Nat.ble k 239 then ((em_239, none)) else ((em_240, none))) else (bif Nat.ble k 241 then ((em_241, none)) else ((em_242, none)))) else (bif Nat.ble k 244 then (bif Nat.ble k 243 then ((em_243, none)) else ((em_244, none))) else (bif Nat.ble k 245 then ((em_245, none)) else ((em_246, none))))) else (bif Nat.ble k 250 then (bif Nat.ble k 248 then (bif Nat.ble k 247 then ((em_247, none)) else ((em_248, none))) else (bif Nat.ble k 249 then ((em_249, none)) else ((em_250, none)))) else (bif Nat.ble k 252 then (bif Nat.ble k 251 then ((em_251, none)) else ((em_252, none))) else (bif Nat.ble k 253 then ((em_253, none)) else ((em_254, none)))))))))) else (bif Nat.ble k 381 then (bif Nat.ble k 317 then (bif Nat.ble k 285 then (bif Nat.ble k 269 then (bif Nat.ble k 261 then (bif Nat.ble k 257 then (bif Nat.ble k 255 then ((em_255, none)) else (bif Nat.ble k 256 then ((em_256, none)) else ((em_257, none)))) else (bif Nat.ble k 259 then (bif Nat.ble k 258 then ((em_258, none)) else ((em_259, none))) else (bif Nat.ble k 260 then ((em_260, none)) else ((em_261, none))))) else (bif Nat.ble k 265 then (bif Nat.ble k 263 then (bif Nat.ble k 262 then ((em_262, none)) else ((em_263, none))) else (bif Nat.ble k 264 then ((em_264, none)) else ((em_265, none)))) else (bif Nat.ble k 267 then (bif Nat.ble k 266 then ((em_266, none)) else ((em_267, none))) else (bif Nat.ble k 268 then ((em_268, none)) else ((em_269, none)))))) else (bif Nat.ble k 277 then (bif Nat.ble k 273 then (bif Nat.ble k 271 then (bif Nat.ble k 270 then ((em_270, none)) else ((em_271, none))) else (bif Nat.ble k 272 then ((em_272, none)) else ((em_273, none)))) else (bif Nat.ble k 275 then (bif Nat.ble k 274 then ((em_274, none)) else ((em_275, none))) else (bif Nat.ble k 276 then ((em_276, none)) else ((em_277, none))))) else (bif Nat.ble k 281 then (bif Nat.ble k 279 then (bif Nat.ble k 278 then ((em_278, none)) else ((em_279, none))) else (bif Nat.ble k 280 then ((em_280, none)) else ((em_281, none)))) else (bif Nat.ble k 283 then (bif Nat.ble k 282 then ((em_282, none)) else ((em_283, none))) else (bif Nat.ble k 284 then ((em_284, none)) else ((em_285, none))))))) else (bif Nat.ble k 301 then (bif Nat.ble k 293 then (bif Nat.ble k 289 then (bif Nat.ble k 287 then (bif Nat.ble k 286 then ((em_286, none)) else ((em_287, none))) else (bif Nat.ble k 288 then ((em_288, none)) else ((em_289, none)))) else (bif Nat.ble k 291 then (bif Nat.ble k 290 then ((em_290, none)) else ((em_291, none))) else (bif Nat.ble k 292 then ((em_292, none)) else ((em_293, none))))) else (bif Nat.ble k 297 then (bif Nat.ble k 295 then (bif Nat.ble k 294 then ((em_294, none)) else ((em_295, none))) else (bif Nat.ble k 296 then ((em_296, none)) else ((em_297, none)))) else (bif Nat.ble k 299 then (bif Nat.ble k 298 then ((em_298, none)) else ((em_299, none))) else (bif Nat.ble k 300 then ((em_300, none)) else ((em_301, none)))))) else (bif Nat.ble k 309 then (bif Nat.ble k 305 then (bif Nat.ble k 303 then (bif Nat.ble k 302 then ((em_302, none)) else ((em_303, none))) else (bif Nat.ble k 304 then ((em_304, none)) else ((em_305, none)))) else (bif Nat.ble k 307 then (bif Nat.ble k 306 then ((em_306, none)) else ((em_307, none))) else (bif Nat.ble k 308 then ((em_308, none)) else ((em_309, none))))) else (bif Nat.ble k 313 then (bif Nat.ble k 311 then (bif Nat.ble k 310 then ((em_310, none)) else ((em_311, none))) else (bif Nat.ble k 312 then ((em_312, none)) else ((em_313, none)))) else (bif Nat.ble k 315 then (bif Nat.ble k 314 then ((em_314, none)) else ((em_315, none))) else (bif Nat.ble k 316 then ((em_316, none)) else ((em_317, none)))))))) else (bif Nat.ble k 349 then (bif Nat.ble k 333 then (bif Nat.ble k 325 then (bif Nat.ble k 321 then (bif Nat.ble k 319 then (bif Nat.ble k 318 then ((em_318, none)) else ((em_319, none))) else (bif Nat.ble k 320 then ((em_320, none)) else ((em_321, none)))) else (bif Nat.ble k 323 then (bif Nat.ble k 322 then ((em_322, none)) else ((em_323, none))) else (bif Nat.ble k 324 then ((em_324, none)) else ((em_325, none))))) else (bif Nat.ble k 329 then (bif Nat.ble k 327 then (bif Nat.ble k 326 then ((em_326, none)) else ((em_327, none))) else (bif Nat.ble k 328 then ((em_328, none)) else ((em_329, none)))) else (bif Nat.ble k 331 then (bif Nat.ble k 330 then ((em_330, none)) else ((em_331, none))) else (bif Nat.ble k 332 then ((em_332, none)) else ((em_333, none)))))) else (bif Nat.ble k 341 then (bif Nat.ble k 337 then (bif Nat.ble k 335 then (bif Nat.ble k 334 then ((em_334, none)) else ((em_335, none))) else (bif Nat.ble k 336 then ((em_336, none)) else ((em_337, none)))) else (bif Nat.ble k 339 then (bif Nat.ble k 338 then ((em_338, none)) else ((em_339, none))) else (bif Nat.ble k 340 then ((em_340, none)) else ((em_341, none))))) else (bif Nat.ble k 345 then (bif Nat.ble k 343 then (bif Nat.ble k 342 then ((em_342, none)) else ((em_343, none))) else (bif Nat.ble k 344 then ((em_344, none)) else ((em_345, none)))) else (bif Nat.ble k 347 then (bif Nat.ble k 346 then ((em_346, none)) else ((em_347, none))) else (bif Nat.ble k 348 then ((em_348, none)) else ((em_349, none))))))) else (bif Nat.ble k 365 then (bif Nat.ble k 357 then (bif Nat.ble k 353 then (bif Nat.ble k 351 then (bif Nat.ble k 350 then ((em_350, none)) else ((em_351, none))) else (bif Nat.ble k 352 then ((em_352, none)) else ((em_353, none)))) else (bif Nat.ble k 355 then (bif Nat.ble k 354 then ((em_354, none)) else ((em_355, none))) else (bif Nat.ble k 356 then ((em_356, none)) else ((em_357, none))))) else (bif Nat.ble k 361 then (bif Nat.ble k 359 then (bif Nat.ble k 358 then ((em_358, none)) else ((em_359, none))) else (bif Nat.ble k 360 then ((em_360, none)) else ((em_361, none)))) else (bif Nat.ble k 363 then (bif Nat.ble k 362 then ((em_362, none)) else ((em_363, none))) else (bif Nat.ble k 364 then ((em_364, none)) else ((em_365, none)))))) else (bif Nat.ble k 373 then (bif Nat.ble k 369 then (bif Nat.ble k 367 then (bif Nat.ble k 366 then ((em_366, none)) else ((em_367, none))) else (bif Nat.ble k 368 then ((em_368, none)) else ((em_369, none)))) else (bif Nat.ble k 371 then (bif Nat.ble k 370 then ((em_370, none)) else ((em_371, none))) else (bif Nat.ble k 372 then ((em_372, none)) else ((em_373, none))))) else (bif Nat.ble k 377 then (bif Nat.ble k 375 then (bif Nat.ble k 374 then ((em_374, none)) else ((em_375, none))) else (bif Nat.ble k 376 then ((em_376, none)) else ((em_377, none)))) else (bif Nat.ble k 379 then (bif Nat.ble k 378 then ((em_378, none)) else ((em_379, none))) else (bif Nat.ble k 380 then ((em_380, none)) else ((em_381, none))))))))) else (bif Nat.ble k 445 then (bif Nat.ble k 413 then (bif Nat.ble k 397 then (bif Nat.ble k 389 then (bif Nat.ble k 385 then (bif Nat.ble k 383 then (bif Nat.ble k 382 then ((em_382, none)) else ((em_383, none))) else (bif Nat.ble k 384 then ((em_384, none)) else ((em_385, none)))) else (bif Nat.ble k 387 then (bif Nat.ble k 386 then ((em_386, none)) else ((em_387, none))) else (bif Nat.ble k 388 then ((em_388, none)) else ((em_389, none))))) else (bif Nat.ble k 393 then (bif Nat.ble k 391 then (bif Nat.ble k 390 then ((em_390, none)) else ((em_391, none))) else (bif Nat.ble k 392 then ((em_392, none)) else ((em_393, none)))) else (bif Nat.ble k 395 then (bif Nat.ble k 394 then ((em_394, none)) else ((em_395, none))) else (bif Nat.ble k 396 then ((em_396, none)) else ((em_397, none)))))) else (bif Nat.ble k 405 then (bif Nat.ble k 401 then (bif Nat.ble k 399 then (bif Nat.ble k 398 then ((em_398, none)) else ((em_399, none))) else (bif Nat.ble k 400 then ((em_400, none)) else ((em_401, none)))) else (bif Nat.ble k 403 then (bif Nat.ble k 402 then ((em_402, none)) else ((em_403, none))) else (bif Nat.ble k 404 then ((em_404, none)) else ((em_405, none))))) else (bif Nat.ble k 409 then (bif Nat.ble k 407 then (bif Nat.ble k 406 then ((em_406, none)) else ((em_407, none))) else (bif Nat.ble k 408 then ((em_408, none)) else ((em_409, none)))) else (bif Nat.ble k 411 then (bif Nat.ble k 410 then ((em_410, none)) else ((em_411, none))) else (bif Nat.ble k 412 then ((em_412, none)) else ((em_413, none))))))) else (bif Nat.ble k 429 then (bif Nat.ble k 421 then (bif Nat.ble k 417 then (bif Nat.ble k 415 then (bif Nat.ble k 414 then ((em_414, none)) else ((em_415, none))) else (bif Nat.ble k 416 then ((em_416, none)) else ((em_417, none)))) else (bif Nat.ble k 419 then (bif Nat.ble k 418 then ((em_418, none)) else ((em_419, none))) else (bif Nat.ble k 420 then ((em_420, none)) else ((em_421, none))))) else (bif Nat.ble k 425 then (bif Nat.ble k 423 then (bif Nat.ble k 422 then ((em_422, none)) else ((em_423, none))) else (bif Nat.ble k 424 then ((em_424, none)) else ((em_425, none)))) else (bif Nat.ble k 427 then (bif Nat.ble k 426 then ((em_426, none)) else ((em_427, none))) else (bif Nat.ble k 428 then ((em_428, none)) else ((em_429, none)))))) else (bif Nat.ble k 437 then (bif Nat.ble k 433 then (bif Nat.ble k 431 then (bif Nat.ble k 430 then ((em_430, none)) else ((em_431, none))) else (bif Nat.ble k 432 then ((em_432, none)) else ((em_433, none)))) else (bif Nat.ble k 435 then (bif Nat.ble k 434 then ((em_434, none)) else ((em_435, none))) else (bif Nat.ble k 436 then ((em_436, none)) else ((em_437, none))))) else (bif Nat.ble k 441 then (bif Nat.ble k 439 then (bif Nat.ble k 438 then ((em_438, some (65, 105, 108, 7))) else ((em_439, none))) else (bif Nat.ble k 440 then ((em_440, none)) else ((em_441, none)))) else (bif Nat.ble k 443 then (bif Nat.ble k 442 then ((em_442, none)) else ((em_443, none))) else (bif Nat.ble k 444 then ((em_444, none)) else ((em_445, none)))))))) else (bif Nat.ble k 477 then (bif Nat.ble k 461 then (bif Nat.ble k 453 then (bif Nat.ble k 449 then (bif Nat.ble k 447 then (bif Nat.ble k 446 then ((em_446, none)) else ((em_447, none))) else (bif Nat.ble k 448 then ((em_448, none)) else ((em_449, none)))) else (bif Nat.ble k 451 then (bif Nat.ble k 450 then ((em_450, none)) else ((em_451, none))) else (bif Nat.ble k 452 then ((em_452, none)) else ((em_453, none))))) else (bif Nat.ble k 457 then (bif Nat.ble k 455 then (bif Nat.ble k 454 then ((em_454, none)) else ((em_455, none))) else (bif Nat.ble k 456 then ((em_456, none)) else ((em_457, none)))) else (bif Nat.ble k 459 then (bif Nat.ble k 458 then ((em_458, none)) else ((em_459, none))) else (bif Nat.ble k 460 then ((em_460, none)) else ((em_461, none)))))) else (bif Nat.ble k 469 then (bif Nat.ble k 465 then (bif Nat.ble k 463 then (bif Nat.ble k 462 then ((em_462, none)) else ((em_463, none))) else (bif Nat.ble k 464 then ((em_464, none)) else ((em_465, none)))) else (bif Nat.ble k 467 then (bif Nat.ble k 466 then ((em_466, none)) else ((em_467, none))) else (bif Nat.ble k 468 then ((em_468, none)) else ((em_469, none))))) else (bif Nat.ble k 473 then (bif Nat.ble k 471 then (bif Nat.ble k 470 then ((em_470, none)) else ((em_471, none))) else (bif Nat.ble k 472 then ((em_472, none)) else ((em_473, none)))) else (bif Nat.ble k 475 then (bif Nat.ble k 474 then ((em_474, none)) else ((em_475, none))) else (bif Nat.ble k 476 then ((em_476, none)) else ((em_477, none))))))) else (bif Nat.ble k 493 then (bif Nat.ble k 485 then (bif Nat.ble k 481 then (bif Nat.ble k 479 then (bif Nat.ble k 478 then ((em_478, none)) else ((em_479, none))) else (bif Nat.ble k 480 then ((em_480, some (0, 26, 29, 7))) else ((em_481, none)))) else (bif Nat.ble k 483 then (bif Nat.ble k 482 then ((em_482, none)) else ((em_483, none))) else (bif Nat.ble k 484 then ((em_484, none)) else ((em_485, none))))) else (bif Nat.ble k 489 then (bif Nat.ble k 487 then (bif Nat.ble k 486 then ((em_486, none)) else ((em_487, some (24, 151, 154, 7)))) else (bif Nat.ble k 488 then ((em_488, none)) else ((em_489, none)))) else (bif Nat.ble k 491 then (bif Nat.ble k 490 then ((em_490, none)) else ((em_491, none))) else (bif Nat.ble k 492 then ((em_492, none)) else ((em_493, none)))))) else (bif Nat.ble k 501 then (bif Nat.ble k 497 then (bif Nat.ble k 495 then (bif Nat.ble k 494 then ((em_494, none)) else ((em_495, none))) else (bif Nat.ble k 496 then ((em_496, none)) else ((em_497, none)))) else (bif Nat.ble k 499 then (bif Nat.ble k 498 then ((em_498, none)) else ((em_499, none))) else (bif Nat.ble k 500 then ((em_500, none)) else ((em_501, none))))) else (bif Nat.ble k 505 then (bif Nat.ble k 503 then (bif Nat.ble k 502 then ((em_502, none)) else ((em_503, none))) else (bif Nat.ble k 504 then ((em_504, none)) else ((em_505, none)))) else (bif Nat.ble k 507 then (bif Nat.ble k 506 then ((em_506, none)) else ((em_507, none))) else (bif Nat.ble k 508 then ((em_508, none)) else ((em_509, none))))))))))
def ev_ms : Nat → ev_M := fun k => (ev_mh k).1
def ev_hd : Nat → Option ev_H := fun k => (ev_mh k).2
theorem ev_mh_ok : ∀ k, ev_mP (ev_mh k) := fun k => ev_bm (P := ev_mP) (ev_bm (P := ev_mP) (ev_bm (P := ev_mP) (ev_bm (P := ev_mP) (ev_bm (P := ev_mP) (ev_bm (P := ev_mP) (ev_bm (P := ev_mP) (ev_bm (P := ev_mP) (mok_0) (ev_bm (P := ev_mP) (mok_1) (mok_2))) (ev_bm (P := ev_mP) (ev_bm (P := ev_mP) (mok_3) (mok_4)) (ev_bm (P := ev_mP) (mok_5) (mok_6)))) (ev_bm (P := ev_mP) (ev_bm (P := ev_mP) (ev_bm (P := ev_mP) (mok_7) (mok_8)) (ev_bm (P := ev_mP) (mok_9) (mok_10))) (ev_bm (P := ev_mP) (ev_bm (P := ev_mP) (mok_11) (mok_12)) (ev_bm (P := ev_mP) (mok_13) (mok_14))))) (ev_bm (P := ev_mP) (ev_bm (P := ev_mP) (ev_bm (P := ev_mP) (ev_bm (P := ev_mP) (mok_15) (mok_16)) (ev_bm (P := ev_mP) (mok_17) (mok_18))) (ev_bm (P := ev_mP) (ev_bm (P := ev_mP) (mok_19) (mok_20)) (ev_bm (P := ev_mP) (mok_21) (mok_22)))) (ev_bm (P := ev_mP) (ev_bm (P := ev_mP) (ev_bm (P := ev_mP) (mok_23) (mok_24)) (ev_bm (P := ev_mP) (mok_25) (mok_26))) (ev_bm (P := ev_mP) (ev_bm (P := ev_mP) (mok_27) (mok_28)) (ev_bm (P := ev_mP) (mok_29) (mok_30)))))) (ev_bm (P := ev_mP) (ev_bm (P := ev_mP) (ev_bm (P := ev_mP) (ev_bm (P := ev_mP) (ev_bm (P := ev_mP) (mok_31) (mok_32)) (ev_bm (P := ev_mP) (mok_33) (mok_34))) (ev_bm (P := ev_mP) (ev_bm (P := ev_mP) (mok_35) (mok_36)) (ev_bm (P := ev_mP) (mok_37) (mok_38)))) (ev_bm (P := ev_mP) (ev_bm (P := ev_mP) (ev_bm (P := ev_mP) (mok_39) (mok_40)) (ev_bm (P := ev_mP) (mok_41) (mok_42))) (ev_bm (P := ev_mP) (ev_bm (P := ev_mP) (mok_43) (mok_44)) (ev_bm (P := ev_mP) (mok_45) (mok_46))))) (ev_bm (P := ev_mP) (ev_bm (P := ev_mP) (ev_bm (P := ev_mP) (ev_bm (P := ev_mP) (mok_47) (mok_48)) (ev_bm (P := ev_mP) (mok_49) (mok_50))) (ev_bm (P := ev_mP) (ev_bm (P := ev_mP) (mok_51) (mok_52)) (ev_bm (P := ev_mP) (mok_53) (mok_54)))) (ev_bm (P := ev_mP) (ev_bm (P := ev_mP) (ev_bm (P := ev_mP) (mok_55) (mok_56)) (ev_bm (P := ev_mP) (mok_57) (mok_58))) (ev_bm (P := ev_mP) (ev_bm (P := ev_mP) (mok_59) (mok_60)) (ev_bm (P := ev_mP) (mok_61) (mok_62))))))) (ev_bm (P := ev_mP) (ev_bm (P := ev_mP) (ev_bm (P := ev_mP) (ev_bm (P := ev_mP) (ev_bm (P := ev_mP) (ev_bm (P := ev_mP) (mok_63) (mok_64)) (ev_bm (P := ev_mP) (mok_65) (mok_66))) (ev_bm (P := ev_mP) (ev_bm (P := ev_mP) (mok_67) (mok_68)) (ev_bm (P := ev_mP) (mok_69) (mok_70)))) (ev_bm (P := ev_mP) (ev_bm (P := ev_mP) (ev_bm (P := ev_mP) (mok_71) (mok_72)) (ev_bm (P := ev_mP) (mok_73) (mok_74))) (ev_bm (P := ev_mP) (ev_bm (P := ev_mP) (mok_75) (mok_76)) (ev_bm (P := ev_mP) (mok_77) (mok_78))))) (ev_bm (P := ev_mP) (ev_bm (P := ev_mP) (ev_bm (P := ev_mP) (ev_bm (P := ev_mP) (mok_79) (mok_80)) (ev_bm (P := ev_mP) (mok_81) (mok_82))) (ev_bm (P := ev_mP) (ev_bm (P := ev_mP) (mok_83) (mok_84)) (ev_bm (P := ev_mP) (mok_85) (mok_86)))) (ev_bm (P := ev_mP) (ev_bm (P := ev_mP) (ev_bm (P := ev_mP) (mok_87) (mok_88)) (ev_bm (P := ev_mP) (mok_89) (mok_90))) (ev_bm (P := ev_mP) (ev_bm (P := ev_mP) (mok_91) (mok_92)) (ev_bm (P := ev_mP) (mok_93) (mok_94)))))) (ev_bm (P := ev_mP) (ev_bm (P := ev_mP) (ev_bm (P := ev_mP) (ev_bm (P := ev_mP) (ev_bm (P := ev_mP) (mok_95) (mok_96)) (ev_bm (P := ev_mP) (mok_97) (mok_98))) (ev_bm (P := ev_mP) (ev_bm (P := ev_mP) (mok_99) (mok_100)) (ev_bm (P := ev_mP) (mok_101) (mok_102)))) (ev_bm (P := ev_mP) (ev_bm (P := ev_mP) (ev_bm (P := ev_mP) (mok_103) (mok_104)) (ev_bm (P := ev_mP) (mok_105) (mok_106))) (ev_bm (P := ev_mP) (ev_bm (P := ev_mP) (mok_107) (mok_108)) (ev_bm (P := ev_mP) (mok_109) (mok_110))))) (ev_bm (P := ev_mP) (ev_bm (P := ev_mP) (ev_bm (P := ev_mP) (ev_bm (P := ev_mP) (mok_111) (mok_112)) (ev_bm (P := ev_mP) (mok_113) (mok_114))) (ev_bm (P := ev_mP) (ev_bm (P := ev_mP) (mok_115) (mok_116)) (ev_bm (P := ev_mP) (mok_117) (mok_118)))) (ev_bm (P := ev_mP) (ev_bm (P := ev_mP) (ev_bm (P := ev_mP) (mok_119) (mok_120)) (ev_bm (P := ev_mP) (mok_121) (mok_122))) (ev_bm (P := ev_mP) (ev_bm (P := ev_mP) (mok_123) (mok_124)) (ev_bm (P := ev_mP) (mok_125) (mok_126)))))))) (ev_bm (P := ev_mP) (ev_bm (P := ev_mP) (ev_bm (P := ev_mP) (ev_bm (P := ev_mP) (ev_bm (P := ev_mP) (ev_bm (P := ev_mP) (ev_bm (P := ev_mP) (mok_127) (mok_128)) (ev_bm (P := ev_mP) (mok_129) (mok_130))) (ev_bm (P := ev_mP) (ev_bm (P := ev_mP) (mok_131) (mok_132)) (ev_bm (P := ev_mP) (mok_133) (mok_134)))) (ev_bm (P := ev_mP) (ev_bm (P := ev_mP) (ev_bm (P := ev_mP) (mok_135) (mok_136)) (ev_bm (P := ev_mP) (mok_137) (mok_138))) (ev_bm (P := ev_mP) (ev_bm (P := ev_mP) (mok_139) (mok_140)) (ev_bm (P := ev_mP) (mok_141) (mok_142))))) (ev_bm (P := ev_mP) (ev_bm (P := ev_mP) (ev_bm (P := ev_mP) (ev_bm (P := ev_mP) (mok_143) (mok_144)) (ev_bm (P := ev_mP) (mok_145) (mok_146))) (ev_bm (P := ev_mP) (ev_bm (P := ev_mP) (mok_147) (mok_148)) (ev_bm (P := ev_mP) (mok_149) (mok_150)))) (ev_bm (P := ev_mP) (ev_bm (P := ev_mP) (ev_bm (P := ev_mP) (mok_151) (mok_152)) (ev_bm (P := ev_mP) (mok_153) (mok_154))) (ev_bm (P := ev_mP) (ev_bm (P := ev_mP) (mok_155) (mok_156)) (ev_bm (P := ev_mP) (mok_157) (mok_158)))))) (ev_bm (P := ev_mP) (ev_bm (P := ev_mP) (ev_bm (P := ev_mP) (ev_bm (P := ev_mP) (ev_bm (P := ev_mP) (mok_159) (mok_160)) (ev_bm (P := ev_mP) (mok_161) (mok_162))) (ev_bm (P := ev_mP) (ev_bm (P := ev_mP) (mok_163) (mok_164)) (ev_bm (P := ev_mP) (mok_165) (mok_166)))) (ev_bm (P := ev_mP) (ev_bm (P := ev_mP) (ev_bm (P := ev_mP) (mok_167) (mok_168)) (ev_bm (P := ev_mP) (mok_169) (mok_170))) (ev_bm (P := ev_mP) (ev_bm (P := ev_mP) (mok_171) (mok_172)) (ev_bm (P := ev_mP) (mok_173) (mok_174))))) (ev_bm (P := ev_mP) (ev_bm (P := ev_mP) (ev_bm (P := ev_mP) (ev_bm (P := ev_mP) (mok_175) (mok_176)) (ev_bm (P := ev_mP) (mok_177) (mok_178))) (ev_bm (P := ev_mP) (ev_bm (P := ev_mP) (mok_179) (mok_180)) (ev_bm (P := ev_mP) (mok_181) (mok_182)))) (ev_bm (P := ev_mP) (ev_bm (P := ev_mP) (ev_bm (P := ev_mP) (mok_183) (mok_184)) (ev_bm (P := ev_mP) (mok_185) (mok_186))) (ev_bm (P := ev_mP) (ev_bm (P := ev_mP) (mok_187) (mok_188)) (ev_bm (P := ev_mP) (mok_189) (mok_190))))))) (ev_bm (P := ev_mP) (ev_bm (P := ev_mP) (ev_bm (P := ev_mP) (ev_bm (P := ev_mP) (ev_bm (P := ev_mP) (ev_bm (P := ev_mP) (mok_191) (mok_192)) (ev_bm (P := ev_mP) (mok_193) (mok_194))) (ev_bm (P := ev_mP) (ev_bm (P := ev_mP) (mok_195) (mok_196)) (ev_bm (P := ev_mP) (mok_197) (mok_198)))) (ev_bm (P := ev_mP) (ev_bm (P := ev_mP) (ev_bm (P := ev_mP) (mok_199) (mok_200)) (ev_bm (P := ev_mP) (mok_201) (mok_202))) (ev_bm (P := ev_mP) (ev_bm (P := ev_mP) (mok_203) (mok_204)) (ev_bm (P := ev_mP) (mok_205) (mok_206))))) (ev_bm (P := ev_mP) (ev_bm (P := ev_mP) (ev_bm (P := ev_mP) (ev_bm (P := ev_mP) (mok_207) (mok_208)) (ev_bm (P := ev_mP) (mok_209) (mok_210))) (ev_bm (P := ev_mP) (ev_bm (P := ev_mP) (mok_211) (mok_212)) (ev_bm (P := ev_mP) (mok_213) (mok_214)))) (ev_bm (P := ev_mP) (ev_bm (P := ev_mP) (ev_bm (P := ev_mP) (mok_215) (mok_216)) (ev_bm (P := ev_mP) (mok_217) (mok_218))) (ev_bm (P := ev_mP) (ev_bm (P := ev_mP) (mok_219) (mok_220)) (ev_bm (P := ev_mP) (mok_221) (mok_222)))))) (ev_bm (P := ev_mP) (ev_bm (P := ev_mP) (ev_bm (P := ev_mP) (ev_bm (P := ev_mP) (ev_bm (P := ev_mP) (mok_223) (mok_224)) (ev_bm (P := ev_mP) (mok_225) (mok_226))) (ev_bm (P := ev_mP) (ev_bm (P := ev_mP) (mok_227) (mok_228)) (ev_bm (P := ev_mP) (mok_229) (mok_230)))) (ev_bm (P := ev_mP) (ev_bm (P := ev_mP) (ev_bm (P := ev_mP) (mok_231) (mok_232)) (ev_bm (P := ev_mP) (mok_233) (mok_234))) (ev_bm (P := ev_mP) (ev_bm (P := ev_mP) (mok_235) (mok_236)) (ev_bm (P := ev_mP) (mok_237) (mok_238))))) (ev_bm (P := ev_mP) (ev_bm (P := ev_mP) (ev_bm (P := ev_mP) (ev_bm (P := ev_mP) (mok_239) (mok_240)) (ev_bm (P := ev_mP) (mok_241) (mok_242))) (ev_bm (P := ev_mP) (ev_bm (P := ev_mP) (mok_243) (mok_244)) (ev_bm (P := ev_mP) (mok_245) (mok_246)))) (ev_bm (P := ev_mP) (ev_bm (P := ev_mP) (ev_bm (P := ev_mP) (mok_247) (mok_248)) (ev_bm (P := ev_mP) (mok_249) (mok_250))) (ev_bm (P := ev_mP) (ev_bm (P := ev_mP) (mok_251) (mok_252)) (ev_bm (P := ev_mP) (mok_253) (mok_254))))))))) (ev_bm (P := ev_mP) (ev_bm (P := ev_mP) (ev_bm (P := ev_mP) (ev_bm (P := ev_mP) (ev_bm (P := ev_mP) (ev_bm (P := ev_mP) (ev_bm (P := ev_mP) (mok_255) (ev_bm (P := ev_mP) (mok_256) (mok_257))) (ev_bm (P := ev_mP) (ev_bm (P := ev_mP) (mok_258) (mok_259)) (ev_bm (P := ev_mP) (mok_260) (mok_261)))) (ev_bm (P := ev_mP) (ev_bm (P := ev_mP) (ev_bm (P := ev_mP) (mok_262) (mok_263)) (ev_bm (P := ev_mP) (mok_264) (mok_265))) (ev_bm (P := ev_mP) (ev_bm (P := ev_mP) (mok_266) (mok_267)) (ev_bm (P := ev_mP) (mok_268) (mok_269))))) (ev_bm (P := ev_mP) (ev_bm (P := ev_mP) (ev_bm (P := ev_mP) (ev_bm (P := ev_mP) (mok_270) (mok_271)) (ev_bm (P := ev_mP) (mok_272) (mok_273))) (ev_bm (P := ev_mP) (ev_bm (P := ev_mP) (mok_274) (mok_275)) (ev_bm (P := ev_mP) (mok_276) (mok_277)))) (ev_bm (P := ev_mP) (ev_bm (P := ev_mP) (ev_bm (P := ev_mP) (mok_278) (mok_279)) (ev_bm (P := ev_mP) (mok_280) (mok_281))) (ev_bm (P := ev_mP) (ev_bm (P := ev_mP) (mok_282) (mok_283)) (ev_bm (P := ev_mP) (mok_284) (mok_285)))))) (ev_bm (P := ev_mP) (ev_bm (P := ev_mP) (ev_bm (P := ev_mP) (ev_bm (P := ev_mP) (ev_bm (P := ev_mP) (mok_286) (mok_287)) (ev_bm (P := ev_mP) (mok_288) (mok_289))) (ev_bm (P := ev_mP) (ev_bm (P := ev_mP) (mok_290) (mok_291)) (ev_bm (P := ev_mP) (mok_292) (mok_293)))) (ev_bm (P := ev_mP) (ev_bm (P := ev_mP) (ev_bm (P := ev_mP) (mok_294) (mok_295)) (ev_bm (P := ev_mP) (mok_296) (mok_297))) (ev_bm (P := ev_mP) (ev_bm (P := ev_mP) (mok_298) (mok_299)) (ev_bm (P := ev_mP) (mok_300) (mok_301))))) (ev_bm (P := ev_mP) (ev_bm (P := ev_mP) (ev_bm (P := ev_mP) (ev_bm (P := ev_mP) (mok_302) (mok_303)) (ev_bm (P := ev_mP) (mok_304) (mok_305))) (ev_bm (P := ev_mP) (ev_bm (P := ev_mP) (mok_306) (mok_307)) (ev_bm (P := ev_mP) (mok_308) (mok_309)))) (ev_bm (P := ev_mP) (ev_bm (P := ev_mP) (ev_bm (P := ev_mP) (mok_310) (mok_311)) (ev_bm (P := ev_mP) (mok_312) (mok_313))) (ev_bm (P := ev_mP) (ev_bm (P := ev_mP) (mok_314) (mok_315)) (ev_bm (P := ev_mP) (mok_316) (mok_317))))))) (ev_bm (P := ev_mP) (ev_bm (P := ev_mP) (ev_bm (P := ev_mP) (ev_bm (P := ev_mP) (ev_bm (P := ev_mP) (ev_bm (P := ev_mP) (mok_318) (mok_319)) (ev_bm (P := ev_mP) (mok_320) (mok_321))) (ev_bm (P := ev_mP) (ev_bm (P := ev_mP) (mok_322) (mok_323)) (ev_bm (P := ev_mP) (mok_324) (mok_325)))) (ev_bm (P := ev_mP) (ev_bm (P := ev_mP) (ev_bm (P := ev_mP) (mok_326) (mok_327)) (ev_bm (P := ev_mP) (mok_328) (mok_329))) (ev_bm (P := ev_mP) (ev_bm (P := ev_mP) (mok_330) (mok_331)) (ev_bm (P := ev_mP) (mok_332) (mok_333))))) (ev_bm (P := ev_mP) (ev_bm (P := ev_mP) (ev_bm (P := ev_mP) (ev_bm (P := ev_mP) (mok_334) (mok_335)) (ev_bm (P := ev_mP) (mok_336) (mok_337))) (ev_bm (P := ev_mP) (ev_bm (P := ev_mP) (mok_338) (mok_339)) (ev_bm (P := ev_mP) (mok_340) (mok_341)))) (ev_bm (P := ev_mP) (ev_bm (P := ev_mP) (ev_bm (P := ev_mP) (mok_342) (mok_343)) (ev_bm (P := ev_mP) (mok_344) (mok_345))) (ev_bm (P := ev_mP) (ev_bm (P := ev_mP) (mok_346) (mok_347)) (ev_bm (P := ev_mP) (mok_348) (mok_349)))))) (ev_bm (P := ev_mP) (ev_bm (P := ev_mP) (ev_bm (P := ev_mP) (ev_bm (P := ev_mP) (ev_bm (P := ev_mP) (mok_350) (mok_351)) (ev_bm (P := ev_mP) (mok_352) (mok_353))) (ev_bm (P := ev_mP) (ev_bm (P := ev_mP) (mok_354) (mok_355)) (ev_bm (P := ev_mP) (mok_356) (mok_357)))) (ev_bm (P := ev_mP) (ev_bm (P := ev_mP) (ev_bm (P := ev_mP) (mok_358) (mok_359)) (ev_bm (P := ev_mP) (mok_360) (mok_361))) (ev_bm (P := ev_mP) (ev_bm (P := ev_mP) (mok_362) (mok_363)) (ev_bm (P := ev_mP) (mok_364) (mok_365))))) (ev_bm (P := ev_mP) (ev_bm (P := ev_mP) (ev_bm (P := ev_mP) (ev_bm (P := ev_mP) (mok_366) (mok_367)) (ev_bm (P := ev_mP) (mok_368) (mok_369))) (ev_bm (P := ev_mP) (ev_bm (P := ev_mP) (mok_370) (mok_371)) (ev_bm (P := ev_mP) (mok_372) (mok_373)))) (ev_bm (P := ev_mP) (ev_bm (P := ev_mP) (ev_bm (P := ev_mP) (mok_374) (mok_375)) (ev_bm (P := ev_mP) (mok_376) (mok_377))) (ev_bm (P := ev_mP) (ev_bm (P := ev_mP) (mok_378) (mok_379)) (ev_bm (P := ev_mP) (mok_380) (mok_381)))))))) (ev_bm (P := ev_mP) (ev_bm (P := ev_mP) (ev_bm (P := ev_mP) (ev_bm (P := ev_mP) (ev_bm (P := ev_mP) (ev_bm (P := ev_mP) (ev_bm (P := ev_mP) (mok_382) (mok_383)) (ev_bm (P := ev_mP) (mok_384) (mok_385))) (ev_bm (P := ev_mP) (ev_bm (P := ev_mP) (mok_386) (mok_387)) (ev_bm (P := ev_mP) (mok_388) (mok_389)))) (ev_bm (P := ev_mP) (ev_bm (P := ev_mP) (ev_bm (P := ev_mP) (mok_390) (mok_391)) (ev_bm (P := ev_mP) (mok_392) (mok_393))) (ev_bm (P := ev_mP) (ev_bm (P := ev_mP) (mok_394) (mok_395)) (ev_bm (P := ev_mP) (mok_396) (mok_397))))) (ev_bm (P := ev_mP) (ev_bm (P := ev_mP) (ev_bm (P := ev_mP) (ev_bm (P := ev_mP) (mok_398) (mok_399)) (ev_bm (P := ev_mP) (mok_400) (mok_401))) (ev_bm (P := ev_mP) (ev_bm (P := ev_mP) (mok_402) (mok_403)) (ev_bm (P := ev_mP) (mok_404) (mok_405)))) (ev_bm (P := ev_mP) (ev_bm (P := ev_mP) (ev_bm (P := ev_mP) (mok_406) (mok_407)) (ev_bm (P := ev_mP) (mok_408) (mok_409))) (ev_bm (P := ev_mP) (ev_bm (P := ev_mP) (mok_410) (mok_411)) (ev_bm (P := ev_mP) (mok_412) (mok_413)))))) (ev_bm (P := ev_mP) (ev_bm (P := ev_mP) (ev_bm (P := ev_mP) (ev_bm (P := ev_mP) (ev_bm (P := ev_mP) (mok_414) (mok_415)) (ev_bm (P := ev_mP) (mok_416) (mok_417))) (ev_bm (P := ev_mP) (ev_bm (P := ev_mP) (mok_418) (mok_419)) (ev_bm (P := ev_mP) (mok_420) (mok_421)))) (ev_bm (P := ev_mP) (ev_bm (P := ev_mP) (ev_bm (P := ev_mP) (mok_422) (mok_423)) (ev_bm (P := ev_mP) (mok_424) (mok_425))) (ev_bm (P := ev_mP) (ev_bm (P := ev_mP) (mok_426) (mok_427)) (ev_bm (P := ev_mP) (mok_428) (mok_429))))) (ev_bm (P := ev_mP) (ev_bm (P := ev_mP) (ev_bm (P := ev_mP) (ev_bm (P := ev_mP) (mok_430) (mok_431)) (ev_bm (P := ev_mP) (mok_432) (mok_433))) (ev_bm (P := ev_mP) (ev_bm (P := ev_mP) (mok_434) (mok_435)) (ev_bm (P := ev_mP) (mok_436) (mok_437)))) (ev_bm (P := ev_mP) (ev_bm (P := ev_mP) (ev_bm (P := ev_mP) (mok_438) (mok_439)) (ev_bm (P := ev_mP) (mok_440) (mok_441))) (ev_bm (P := ev_mP) (ev_bm (P := ev_mP) (mok_442) (mok_443)) (ev_bm (P := ev_mP) (mok_444) (mok_445))))))) (ev_bm (P := ev_mP) (ev_bm (P := ev_mP) (ev_bm (P := ev_mP) (ev_bm (P := ev_mP) (ev_bm (P := ev_mP) (ev_bm (P := ev_mP) (mok_446) (mok_447)) (ev_bm (P := ev_mP) (mok_448) (mok_449))) (ev_bm (P := ev_mP) (ev_bm (P := ev_mP) (mok_450) (mok_451)) (ev_bm (P := ev_mP) (mok_452) (mok_453)))) (ev_bm (P := ev_mP) (ev_bm (P := ev_mP) (ev_bm (P := ev_mP) (mok_454) (mok_455)) (ev_bm (P := ev_mP) (mok_456) (mok_457))) (ev_bm (P := ev_mP) (ev_bm (P := ev_mP) (mok_458) (mok_459)) (ev_bm (P := ev_mP) (mok_460) (mok_461))))) (ev_bm (P := ev_mP) (ev_bm (P := ev_mP) (ev_bm (P := ev_mP) (ev_bm (P := ev_mP) (mok_462) (mok_463)) (ev_bm (P := ev_mP) (mok_464) (mok_465))) (ev_bm (P := ev_mP) (ev_bm (P := ev_mP) (mok_466) (mok_467)) (ev_bm (P := ev_mP) (mok_468) (mok_469)))) (ev_bm (P := ev_mP) (ev_bm (P := ev_mP) (ev_bm (P := ev_mP) (mok_470) (mok_471)) (ev_bm (P := ev_mP) (mok_472) (mok_473))) (ev_bm (P := ev_mP) (ev_bm (P := ev_mP) (mok_474) (mok_475)) (ev_bm (P := ev_mP) (mok_476) (mok_477)))))) (ev_bm (P := ev_mP) (ev_bm (P := ev_mP) (ev_bm (P := ev_mP) (ev_bm (P := ev_mP) (ev_bm (P := ev_mP) (mok_478) (mok_479)) (ev_bm (P := ev_mP) (mok_480) (mok_481))) (ev_bm (P := ev_mP) (ev_bm (P := ev_mP) (mok_482) (mok_483)) (ev_bm (P := ev_mP) (mok_484) (mok_485)))) (ev_bm (P := ev_mP) (ev_bm (P := ev_mP) (ev_bm (P := ev_mP) (mok_486) (mok_487)) (ev_bm (P := ev_mP) (mok_488) (mok_489))) (ev_bm (P := ev_mP) (ev_bm (P := ev_mP) (mok_490) (mok_491)) (ev_bm (P := ev_mP) (mok_492) (mok_493))))) (ev_bm (P := ev_mP) (ev_bm (P := ev_mP) (ev_bm (P := ev_mP) (ev_bm (P := ev_mP) (mok_494) (mok_495)) (ev_bm (P := ev_mP) (mok_496) (mok_497))) (ev_bm (P := ev_mP) (ev_bm (P := ev_mP) (mok_498) (mok_499)) (ev_bm (P := ev_mP) (mok_500) (mok_501)))) (ev_bm (P := ev_mP) (ev_bm (P := ev_mP) (ev_bm (P := ev_mP) (mok_502) (mok_503)) (ev_bm (P := ev_mP) (mok_504) (mok_505))) (ev_bm (P := ev_mP) (ev_bm (P := ev_mP) (mok_506) (mok_507)) (ev_bm (P := ev_mP) (mok_508) (mok_509)))))))))
theorem ev_ms_ok : ev_MetOk ev_ms ev_hd := fun k => by
  have h := ev_mh_ok k
  unfold ev_mP at h
  unfold ev_ms ev_hd ev_hw
  exact h
