def ev_tl : List FieldType := [.int, .byte, .object "LevelUnits$Decl", .object "LevelUnits$Node", .object "LevelUnits$Strand"]
def ev_ol : List String := ["LevelUnits$Decl", "LevelUnits$Node", "LevelUnits$Strand"]
def ev_oc : Nat → Nat := fun j => bif Nat.beq j 2 then 1 else bif Nat.beq j 3 then 4 else 99
theorem ev_oc_ok : ∀ j, 2 ≤ j → j < ev_tl.length → vwCl[ev_oc j]? = none ∨ ∃ r : vw_C, vwCl[ev_oc j]? = some r ∧ ev_tl[j]? = some (.object r.1) := by
  intro j h1 h2
  have h3 : j < 5 := h2
  have h4 : j = 2 ∨ j = 3 ∨ j = 4 := by omega
  rcases h4 with rfl | rfl | rfl <;> first | exact Or.inr ⟨_, rfl, rfl⟩ | exact Or.inl rfl
def ev_df : Nat → List Value := fun c => bif Nat.beq c 0 then [.null, .null, .null, .int 0, .int 0, .null, .int 0] else bif Nat.beq c 1 then [.int 0, .int 0, .int 0, .int 0, .null, .null, .null, .null, .null, .int 0, .int 0, .null, .null, .int 0, .null, .null, .int 0, .int 0, .null] else bif Nat.beq c 2 then [.null, .null, .null, .null, .null, .null, .int 0, .null, .int 0, .int 0, .int 0, .null, .int 0, .null, .int 0, .null, .null, .int 0, .int 0] else bif Nat.beq c 3 then [.null, .int 0] else bif Nat.beq c 4 then [.int 0, .int 0, .int 0, .null, .int 0, .int 0, .null, .null, .null, .null, .null, .null, .null, .null, .int 0, .int 0, .null, .int 0, .null, .null] else bif Nat.beq c 5 then [.int 0, .int 0, .int 0, .int 0, .null, .null, .null, .null] else bif Nat.beq c 6 then [.null, .int 0, .int 0, .int 0, .null, .null, .int 0, .null, .null, .null, .int 0, .null, .null, .null, .null, .null, .null, .null, .null, .null] else bif Nat.beq c 7 then [.null, .null, .null, .int 0, .null, .int 0, .int 0, .int 0, .null, .null, .null, .null, .int 0] else bif Nat.beq c 8 then [.int 0, .int 0, .null, .null, .null, .null, .null, .null, .null, .null, .null, .null, .null, .null, .int 0] else bif Nat.beq c 9 then [.int 0, .null, .null, .null, .null, .int 0, .null, .null, .null, .null, .int 0, .null, .int 0] else bif Nat.beq c 10 then [.null, .int 0, .null, .null, .null] else []
theorem df_X0 : ∀ j, j < 7 → defaultValue (tyX0 j) = vp_V (ev_df 0) j := by decide +kernel
theorem df_X1 : ∀ j, j < 19 → defaultValue (tyX1 j) = vp_V (ev_df 1) j := by decide +kernel
theorem df_X2 : ∀ j, j < 19 → defaultValue (tyX2 j) = vp_V (ev_df 2) j := by decide +kernel
theorem df_X3 : ∀ j, j < 2 → defaultValue (tyX3 j) = vp_V (ev_df 3) j := by decide +kernel
theorem df_X4 : ∀ j, j < 20 → defaultValue (tyX4 j) = vp_V (ev_df 4) j := by decide +kernel
theorem df_X5 : ∀ j, j < 8 → defaultValue (tyX5 j) = vp_V (ev_df 5) j := by decide +kernel
theorem df_X6 : ∀ j, j < 20 → defaultValue (tyX6 j) = vp_V (ev_df 6) j := by decide +kernel
theorem df_X7 : ∀ j, j < 13 → defaultValue (tyX7 j) = vp_V (ev_df 7) j := by decide +kernel
theorem df_X8 : ∀ j, j < 15 → defaultValue (tyX8 j) = vp_V (ev_df 8) j := by decide +kernel
theorem df_X10 : ∀ j, j < 13 → defaultValue (tyX10 j) = vp_V (ev_df 9) j := by decide +kernel
theorem df_X11 : ∀ j, j < 5 → defaultValue (tyX11 j) = vp_V (ev_df 10) j := by decide +kernel
def ev_nl : List (String × Nat × MethodName × String) := [("LevelUnits", 15, yX7_init, "LevelUnits"), ("LevelUnits", 22, yX2_init, "LevelUnits"), ("LevelUnits$Types", 173, yX11_isObject, "LevelUnits"), ("LevelUnits$Types", 322, yX11_hasParts, "LevelUnits")]
abbrev em_0 : ev_M := (yX11_init, RX11, cX11_init, 1, none, .code yX11_init cX11_init 1 none :: ev_big)
abbrev em_1 : ev_M := (yX11_feed, RX11, cX11_feed, 6, (some .int), .code yX11_feed cX11_feed 6 (some .int) :: ev_big)
abbrev em_2 : ev_M := (yX11_putBytes, RX11, cX11_putBytes, 3, none, .code yX11_putBytes cX11_putBytes 3 none :: ev_big)
abbrev em_3 : ev_M := (yX11_back, RX11, cX11_back, 2, (some .int), .code yX11_back cX11_back 2 (some .int) :: ev_big)
abbrev em_4 : ev_M := (yX11_read, RX11, cX11_read, 5, (some .int), .code yX11_read cX11_read 5 (some .int) :: ev_big)
abbrev em_5 : ev_M := (yX11_typeNumbered, RX11, cX11_typeNumbered, 2, (some (.object "LevelUnits$Node")), .code yX11_typeNumbered cX11_typeNumbered 2 (some (.object "LevelUnits$Node")) :: ev_big)
abbrev em_6 : ev_M := (yX11_unitNumbered, RX11, cX11_unitNumbered, 2, (some (.object "LevelUnits$Decl")), .code yX11_unitNumbered cX11_unitNumbered 2 (some (.object "LevelUnits$Decl")) :: ev_big)
abbrev em_7 : ev_M := (yX11_alike, RX11, cX11_alike, 5, (some .int), .code yX11_alike cX11_alike 5 (some .int) :: ev_big)
abbrev em_8 : ev_M := (yX11_below, RX11, cX11_below, 7, (some .int), .code yX11_below cX11_below 7 (some .int) :: ev_big)
abbrev em_9 : ev_M := (yX11_type, RX11, cX11_type, 5, (some .int), .code yX11_type cX11_type 5 (some .int) :: ev_big)
abbrev em_10 : ev_M := (yX11_sees, RX11, cX11_sees, 5, (some .int), .code yX11_sees cX11_sees 5 (some .int) :: ev_big)
abbrev em_11 : ev_M := (yX11_isObject, RX11, cX11_isObject, 1, (some .boolean), .code yX11_isObject cX11_isObject 1 (some .boolean) :: ev_big)
abbrev em_12 : ev_M := (yX11_hasParts, RX11, cX11_hasParts, 1, (some .boolean), .code yX11_hasParts cX11_hasParts 1 (some .boolean) :: ev_big)
abbrev em_13 : ev_M := (yX7_init, RX7, cX7_init, 1, none, .code yX7_init cX7_init 1 none :: ev_big)
abbrev em_14 : ev_M := (yX7_scan, RX7, cX7_scan, 5, none, .code yX7_scan cX7_scan 5 none :: ev_big)
abbrev em_15 : ev_M := (yX7_scanToken, RX7, cX7_scanToken, 3, (some .boolean), .code yX7_scanToken cX7_scanToken 3 (some .boolean) :: ev_big)
abbrev em_16 : ev_M := (yX7_putToken, RX7, cX7_putToken, 4, (some .boolean), .code yX7_putToken cX7_putToken 4 (some .boolean) :: ev_big)
abbrev em_17 : ev_M := (yX7_skipBlanks, RX7, cX7_skipBlanks, 3, (some .int), .code yX7_skipBlanks cX7_skipBlanks 3 (some .int) :: ev_big)
abbrev em_18 : ev_M := (yX7_isPair, RX7, cX7_isPair, 3, (some .boolean), .code yX7_isPair cX7_isPair 3 (some .boolean) :: ev_big)
abbrev em_19 : ev_M := (yX7_isLetter, RX7, cX7_isLetter, 1, (some .boolean), .code yX7_isLetter cX7_isLetter 1 (some .boolean) :: ev_big)
abbrev em_20 : ev_M := (yX7_isDigit, RX7, cX7_isDigit, 1, (some .boolean), .code yX7_isDigit cX7_isDigit 1 (some .boolean) :: ev_big)
abbrev em_21 : ev_M := (yX7_scanName, RX7, cX7_scanName, 4, (some .boolean), .code yX7_scanName cX7_scanName 4 (some .boolean) :: ev_big)
abbrev em_22 : ev_M := (yX7_wordAt, RX7, cX7_wordAt, 8, (some .int), .code yX7_wordAt cX7_wordAt 8 (some .int) :: ev_big)
abbrev em_23 : ev_M := (yX7_nameAt, RX7, cX7_nameAt, 6, (some .int), .code yX7_nameAt cX7_nameAt 6 (some .int) :: ev_big)
abbrev em_24 : ev_M := (yX7_isSameText, RX7, cX7_isSameText, 5, (some .boolean), .code yX7_isSameText cX7_isSameText 5 (some .boolean) :: ev_big)
abbrev em_25 : ev_M := (yX7_scanNumber, RX7, cX7_scanNumber, 4, (some .boolean), .code yX7_scanNumber cX7_scanNumber 4 (some .boolean) :: ev_big)
abbrev em_26 : ev_M := (yX7_scanSign, RX7, cX7_scanSign, 3, (some .boolean), .code yX7_scanSign cX7_scanSign 3 (some .boolean) :: ev_big)
abbrev em_27 : ev_M := (yX6_init, RX6, cX6_init, 2, none, .code yX6_init cX6_init 2 none :: ev_big)
abbrev em_28 : ev_M := (yX6_tokens, RX6, cX6_tokens, 1, (some .int), .code yX6_tokens cX6_tokens 1 (some .int) :: ev_big)
abbrev em_29 : ev_M := (yX6_nodeCount, RX6, cX6_nodeCount, 1, (some .int), .code yX6_nodeCount cX6_nodeCount 1 (some .int) :: ev_big)
abbrev em_30 : ev_M := (yX6_accept, RX6, cX6_accept, 2, (some .boolean), .code yX6_accept cX6_accept 2 (some .boolean) :: ev_big)
abbrev em_31 : ev_M := (yX6_advance, RX6, cX6_advance, 1, none, .code yX6_advance cX6_advance 1 none :: ev_big)
abbrev em_32 : ev_M := (yX6_take, RX6, cX6_take, 2, none, .code yX6_take cX6_take 2 none :: ev_big)
abbrev em_33 : ev_M := (yX6_takeName, RX6, cX6_takeName, 2, (some .int), .code yX6_takeName cX6_takeName 2 (some .int) :: ev_big)
abbrev em_34 : ev_M := (yX6_takeEndName, RX6, cX6_takeEndName, 2, none, .code yX6_takeEndName cX6_takeEndName 2 none :: ev_big)
abbrev em_35 : ev_M := (yX6_takeOpening, RX6, cX6_takeOpening, 2, none, .code yX6_takeOpening cX6_takeOpening 2 none :: ev_big)
abbrev em_36 : ev_M := (yX6_takeClosing, RX6, cX6_takeClosing, 2, none, .code yX6_takeClosing cX6_takeClosing 2 none :: ev_big)
abbrev em_37 : ev_M := (yX6_told, RX6, cX6_told, 4, (some (.object "LevelUnits$Decl")), .code yX6_told cX6_told 4 (some (.object "LevelUnits$Decl")) :: ev_big)
abbrev em_38 : ev_M := (yX6_qname, RX6, cX6_qname, 3, (some (.object "LevelUnits$Op")), .code yX6_qname cX6_qname 3 (some (.object "LevelUnits$Op")) :: ev_big)
abbrev em_39 : ev_M := (yX6_makeNode, RX6, cX6_makeNode, 3, (some (.object "LevelUnits$Node")), .code yX6_makeNode cX6_makeNode 3 (some (.object "LevelUnits$Node")) :: ev_big)
abbrev em_40 : ev_M := (yX6_parse, RX6, cX6_parse, 5, none, .code yX6_parse cX6_parse 5 none :: ev_big)
abbrev em_41 : ev_M := (yX6_parseImports, RX6, cX6_parseImports, 2, none, .code yX6_parseImports cX6_parseImports 2 none :: ev_big)
abbrev em_42 : ev_M := (yX6_append, RX6, cX6_append, 2, none, .code yX6_append cX6_append 2 none :: ev_big)
abbrev em_43 : ev_M := (yX6_makeBody, RX6, cX6_makeBody, 2, (some (.object "LevelUnits$Stat")), .code yX6_makeBody cX6_makeBody 2 (some (.object "LevelUnits$Stat")) :: ev_big)
abbrev em_44 : ev_M := (yX6_beginsDeclaration, RX6, cX6_beginsDeclaration, 1, (some .boolean), .code yX6_beginsDeclaration cX6_beginsDeclaration 1 (some .boolean) :: ev_big)
abbrev em_45 : ev_M := (yX6_parseDeclaration, RX6, cX6_parseDeclaration, 5, none, .code yX6_parseDeclaration cX6_parseDeclaration 5 none :: ev_big)
abbrev em_46 : ev_M := (yX6_parseTypeTold, RX6, cX6_parseTypeTold, 2, none, .code yX6_parseTypeTold cX6_parseTypeTold 2 none :: ev_big)
abbrev em_47 : ev_M := (yX6_parseReveal, RX6, cX6_parseReveal, 3, none, .code yX6_parseReveal cX6_parseReveal 3 none :: ev_big)
abbrev em_48 : ev_M := (yX6_lastOf, RX6, cX6_lastOf, 3, (some (.object "LevelUnits$Decl")), .code yX6_lastOf cX6_lastOf 3 (some (.object "LevelUnits$Decl")) :: ev_big)
abbrev em_49 : ev_M := (yX6_parseGroup, RX6, cX6_parseGroup, 7, (some (.object "LevelUnits$Decl")), .code yX6_parseGroup cX6_parseGroup 7 (some (.object "LevelUnits$Decl")) :: ev_big)
abbrev em_50 : ev_M := (yX6_beginsType, RX6, cX6_beginsType, 1, (some .boolean), .code yX6_beginsType cX6_beginsType 1 (some .boolean) :: ev_big)
abbrev em_51 : ev_M := (yX6_parseType, RX6, cX6_parseType, 3, (some (.object "LevelUnits$Node")), .code yX6_parseType cX6_parseType 3 (some (.object "LevelUnits$Node")) :: ev_big)
abbrev em_52 : ev_M := (yX6_parseShape, RX6, cX6_parseShape, 6, (some (.object "LevelUnits$Node")), .code yX6_parseShape cX6_parseShape 6 (some (.object "LevelUnits$Node")) :: ev_big)
abbrev em_53 : ev_M := (yX6_parseSimple, RX6, cX6_parseSimple, 2, (some (.object "LevelUnits$Node")), .code yX6_parseSimple cX6_parseSimple 2 (some (.object "LevelUnits$Node")) :: ev_big)
abbrev em_54 : ev_M := (yX6_parseNamed, RX6, cX6_parseNamed, 2, (some (.object "LevelUnits$Node")), .code yX6_parseNamed cX6_parseNamed 2 (some (.object "LevelUnits$Node")) :: ev_big)
abbrev em_55 : ev_M := (yX6_parseBounds, RX6, cX6_parseBounds, 2, none, .code yX6_parseBounds cX6_parseBounds 2 none :: ev_big)
abbrev em_56 : ev_M := (yX6_parseBound, RX6, cX6_parseBound, 3, (some .int), .code yX6_parseBound cX6_parseBound 3 (some .int) :: ev_big)
abbrev em_57 : ev_M := (yX6_parseFields, RX6, cX6_parseFields, 6, (some (.object "LevelUnits$Decl")), .code yX6_parseFields cX6_parseFields 6 (some (.object "LevelUnits$Decl")) :: ev_big)
abbrev em_58 : ev_M := (yX6_parseLevel, RX6, cX6_parseLevel, 5, (some (.object "LevelUnits$Node")), .code yX6_parseLevel cX6_parseLevel 5 (some (.object "LevelUnits$Node")) :: ev_big)
abbrev em_59 : ev_M := (yX6_beginsStatement, RX6, cX6_beginsStatement, 1, (some .boolean), .code yX6_beginsStatement cX6_beginsStatement 1 (some .boolean) :: ev_big)
abbrev em_60 : ev_M := (yX6_parseStatements, RX6, cX6_parseStatements, 5, none, .code yX6_parseStatements cX6_parseStatements 5 none :: ev_big)
abbrev em_61 : ev_M := (yX3_init, RX3, cX3_init, 2, none, .code yX3_init cX3_init 2 none :: ev_big)
abbrev em_62 : ev_M := (yX3_judge, RX3, cX3_judge, 3, (some .int), .code yX3_judge cX3_judge 3 (some .int) :: ev_big)
abbrev em_63 : ev_M := (yX3_interfaceAhead, RX3, cX3_interfaceAhead, 4, (some (.object "LevelUnits$Decl")), .code yX3_interfaceAhead cX3_interfaceAhead 4 (some (.object "LevelUnits$Decl")) :: ev_big)
abbrev em_64 : ev_M := (yX3_judgeUnit, RX3, cX3_judgeUnit, 3, none, .code yX3_judgeUnit cX3_judgeUnit 3 none :: ev_big)
abbrev em_65 : ev_M := (yX3_linkProcedures, RX3, cX3_linkProcedures, 4, none, .code yX3_linkProcedures cX3_linkProcedures 4 none :: ev_big)
abbrev em_66 : ev_M := (yX3_toldBy, RX3, cX3_toldBy, 3, (some (.object "LevelUnits$Decl")), .code yX3_toldBy cX3_toldBy 3 (some (.object "LevelUnits$Decl")) :: ev_big)
abbrev em_67 : ev_M := (yX3_knownIn, RX3, cX3_knownIn, 3, (some (.object "LevelUnits$Decl")), .code yX3_knownIn cX3_knownIn 3 (some (.object "LevelUnits$Decl")) :: ev_big)
abbrev em_68 : ev_M := (yX3_judgeDeclaration, RX3, cX3_judgeDeclaration, 4, none, .code yX3_judgeDeclaration cX3_judgeDeclaration 4 none :: ev_big)
abbrev em_69 : ev_M := (yX3_isToldByInterface, RX3, cX3_isToldByInterface, 3, (some .boolean), .code yX3_isToldByInterface cX3_isToldByInterface 3 (some .boolean) :: ev_big)
abbrev em_70 : ev_M := (yX3_isThere, RX3, cX3_isThere, 3, (some .boolean), .code yX3_isThere cX3_isThere 3 (some .boolean) :: ev_big)
abbrev em_71 : ev_M := (yX3_judgeNode, RX3, cX3_judgeNode, 3, none, .code yX3_judgeNode cX3_judgeNode 3 none :: ev_big)
abbrev em_72 : ev_M := (yX3_judgeUse, RX3, cX3_judgeUse, 6, none, .code yX3_judgeUse cX3_judgeUse 6 none :: ev_big)
abbrev em_73 : ev_M := (yX10_init, RX10, cX10_init, 7, none, .code yX10_init cX10_init 7 none :: ev_big)
abbrev em_74 : ev_M := (yX10_prepare, RX10, cX10_prepare, 3, none, .code yX10_prepare cX10_prepare 3 none :: ev_big)
abbrev em_75 : ev_M := (yX10_number, RX10, cX10_number, 6, none, .code yX10_number cX10_number 6 none :: ev_big)
abbrev em_76 : ev_M := (yX10_replaced, RX10, cX10_replaced, 6, (some (.object "LevelUnits$Node")), .code yX10_replaced cX10_replaced 6 (some (.object "LevelUnits$Node")) :: ev_big)
abbrev em_77 : ev_M := (yX10_linkReveals, RX10, cX10_linkReveals, 5, none, .code yX10_linkReveals cX10_linkReveals 5 none :: ev_big)
abbrev em_78 : ev_M := (yX10_revealed, RX10, cX10_revealed, 1, (some (.object "LevelUnits$Node")), .code yX10_revealed cX10_revealed 1 (some (.object "LevelUnits$Node")) :: ev_big)
abbrev em_79 : ev_M := (yX10_levelOf, RX10, cX10_levelOf, 4, (some (.object "LevelUnits$Node")), .code yX10_levelOf cX10_levelOf 4 (some (.object "LevelUnits$Node")) :: ev_big)
abbrev em_80 : ev_M := (yX10_aboveInWhole, RX10, cX10_aboveInWhole, 3, (some (.object "LevelUnits$Node")), .code yX10_aboveInWhole cX10_aboveInWhole 3 (some (.object "LevelUnits$Node")) :: ev_big)
abbrev em_81 : ev_M := (yX10_above, RX10, cX10_above, 3, (some (.object "LevelUnits$Node")), .code yX10_above cX10_above 3 (some (.object "LevelUnits$Node")) :: ev_big)
abbrev em_82 : ev_M := (yX10_findViews, RX10, cX10_findViews, 3, none, .code yX10_findViews cX10_findViews 3 none :: ev_big)
abbrev em_83 : ev_M := (yX10_viewed, RX10, cX10_viewed, 6, (some (.object "LevelUnits$Node")), .code yX10_viewed cX10_viewed 6 (some (.object "LevelUnits$Node")) :: ev_big)
abbrev em_84 : ev_M := (yX10_isToldAbove, RX10, cX10_isToldAbove, 4, (some .boolean), .code yX10_isToldAbove cX10_isToldAbove 4 (some .boolean) :: ev_big)
abbrev em_85 : ev_M := (yX10_wholeChain, RX10, cX10_wholeChain, 4, (some .int), .code yX10_wholeChain cX10_wholeChain 4 (some .int) :: ev_big)
abbrev em_86 : ev_M := (yX10_chainSeen, RX10, cX10_chainSeen, 5, (some .int), .code yX10_chainSeen cX10_chainSeen 5 (some .int) :: ev_big)
abbrev em_87 : ev_M := (yX10_findShapes, RX10, cX10_findShapes, 11, none, .code yX10_findShapes cX10_findShapes 11 none :: ev_big)
abbrev em_88 : ev_M := (yX10_isOwnType, RX10, cX10_isOwnType, 1, (some .boolean), .code yX10_isOwnType cX10_isOwnType 1 (some .boolean) :: ev_big)
abbrev em_89 : ev_M := (yX10_modelOf, RX10, cX10_modelOf, 6, (some .int), .code yX10_modelOf cX10_modelOf 6 (some .int) :: ev_big)
abbrev em_90 : ev_M := (yX10_isLike, RX10, cX10_isLike, 4, (some .boolean), .code yX10_isLike cX10_isLike 4 (some .boolean) :: ev_big)
abbrev em_91 : ev_M := (yX10_isSameElem, RX10, cX10_isSameElem, 2, (some .boolean), .code yX10_isSameElem cX10_isSameElem 2 (some .boolean) :: ev_big)
abbrev em_92 : ev_M := (yX10_isSameProcedure, RX10, cX10_isSameProcedure, 2, (some .boolean), .code yX10_isSameProcedure cX10_isSameProcedure 2 (some .boolean) :: ev_big)
abbrev em_93 : ev_M := (yX10_hasOverrides, RX10, cX10_hasOverrides, 4, (some .boolean), .code yX10_hasOverrides cX10_hasOverrides 4 (some .boolean) :: ev_big)
abbrev em_94 : ev_M := (yX10_isWithin, RX10, cX10_isWithin, 4, (some .boolean), .code yX10_isWithin cX10_isWithin 4 (some .boolean) :: ev_big)
abbrev em_95 : ev_M := (yX10_isBelow, RX10, cX10_isBelow, 6, (some .boolean), .code yX10_isBelow cX10_isBelow 6 (some .boolean) :: ev_big)
abbrev em_96 : ev_M := (yX10_findCells, RX10, cX10_findCells, 3, (some .boolean), .code yX10_findCells cX10_findCells 3 (some .boolean) :: ev_big)
abbrev em_97 : ev_M := (yX10_cellsOf, RX10, cX10_cellsOf, 5, (some .int), .code yX10_cellsOf cX10_cellsOf 5 (some .int) :: ev_big)
abbrev em_98 : ev_M := (yX10_firstsOf, RX10, cX10_firstsOf, 4, (some (.array .int)), .code yX10_firstsOf cX10_firstsOf 4 (some (.array .int)) :: ev_big)
abbrev em_99 : ev_M := (yX10_judge, RX10, cX10_judge, 3, (some .int), .code yX10_judge cX10_judge 3 (some .int) :: ev_big)
abbrev em_100 : ev_M := (yX10_judgeDeclaration, RX10, cX10_judgeDeclaration, 2, none, .code yX10_judgeDeclaration cX10_judgeDeclaration 2 none :: ev_big)
abbrev em_101 : ev_M := (yX10_judgeReveal, RX10, cX10_judgeReveal, 3, none, .code yX10_judgeReveal cX10_judgeReveal 3 none :: ev_big)
abbrev em_102 : ev_M := (yX10_isAboveInWhole, RX10, cX10_isAboveInWhole, 5, (some .boolean), .code yX10_isAboveInWhole cX10_isAboveInWhole 5 (some .boolean) :: ev_big)
abbrev em_103 : ev_M := (yX10_isInRing, RX10, cX10_isInRing, 4, (some .boolean), .code yX10_isInRing cX10_isInRing 4 (some .boolean) :: ev_big)
abbrev em_104 : ev_M := (yX10_aboveByName, RX10, cX10_aboveByName, 3, (some (.object "LevelUnits$Decl")), .code yX10_aboveByName cX10_aboveByName 3 (some (.object "LevelUnits$Decl")) :: ev_big)
abbrev em_105 : ev_M := (yX10_judgeNode, RX10, cX10_judgeNode, 2, none, .code yX10_judgeNode cX10_judgeNode 2 none :: ev_big)
abbrev em_106 : ev_M := (yX10_judgeMethods, RX10, cX10_judgeMethods, 5, none, .code yX10_judgeMethods cX10_judgeMethods 5 none :: ev_big)
abbrev em_107 : ev_M := (yX10_layOut, RX10, cX10_layOut, 5, none, .code yX10_layOut cX10_layOut 5 none :: ev_big)
abbrev em_108 : ev_M := (yX10_fieldCells, RX10, cX10_fieldCells, 5, (some .int), .code yX10_fieldCells cX10_fieldCells 5 (some .int) :: ev_big)
abbrev em_109 : ev_M := (yX0_init, RX0, cX0_init, 2, none, .code yX0_init cX0_init 2 none :: ev_big)
abbrev em_110 : ev_M := (yX0_judgeTypes, RX0, cX0_judgeTypes, 3, (some .int), .code yX0_judgeTypes cX0_judgeTypes 3 (some .int) :: ev_big)
abbrev em_111 : ev_M := (yX0_judgeExceptions, RX0, cX0_judgeExceptions, 4, (some .int), .code yX0_judgeExceptions cX0_judgeExceptions 4 (some .int) :: ev_big)
abbrev em_112 : ev_M := (yX2_init, RX2, cX2_init, 1, none, .code yX2_init cX2_init 1 none :: ev_big)
abbrev em_113 : ev_M := (yX2_clear, RX2, cX2_clear, 1, none, .code yX2_clear cX2_clear 1 none :: ev_big)
abbrev em_114 : ev_M := (yX1_init, RX1, cX1_init, 5, none, .code yX1_init cX1_init 5 none :: ev_big)
abbrev em_115 : ev_M := (yX4_init, RX4, cX4_init, 5, none, .code yX4_init cX4_init 5 none :: ev_big)
abbrev em_116 : ev_M := (yX5_init, RX5, cX5_init, 5, none, .code yX5_init cX5_init 5 none :: ev_big)
abbrev em_117 : ev_M := (yX8_init, RX8, cX8_init, 5, none, .code yX8_init cX8_init 5 none :: ev_big)
abbrev em_118 : ev_M := (yJ7_fill_53178, RJ7, cJ7_fill_53178, 4, none, .code yJ7_fill_53178 cJ7_fill_53178 4 none :: ev_big)
abbrev em_119 : ev_M := (yL_at, RL, cL_at, 2, (some .int), .code yL_at cL_at 2 (some .int) :: ev_big)
abbrev em_120 : ev_M := (yL_put, RL, cL_put, 7, none, .code yL_put cL_put 7 none :: ev_big)
abbrev em_121 : ev_M := (yL_sign, RL, cL_sign, 2, none, .code yL_sign cL_sign 2 none :: ev_big)
abbrev em_122 : ev_M := (yL_ring, RL, cL_ring, 5, none, .code yL_ring cL_ring 5 none :: ev_big)
abbrev em_123 : ev_M := (yL_bound, RL, cL_bound, 2, (some .int), .code yL_bound cL_bound 2 (some .int) :: ev_big)
abbrev em_124 : ev_M := (yL_same, RL, cL_same, 8, (some .boolean), .code yL_same cL_same 8 (some .boolean) :: ev_big)
abbrev em_125 : ev_M := (yL_law, RL, cL_law, 19, (some .boolean), .code yL_law cL_law 19 (some .boolean) :: ev_big)
abbrev em_126 : ev_M := (yL_stirred, RL, cL_stirred, 6, (some (.array .int)), .code yL_stirred cL_stirred 6 (some (.array .int)) :: ev_big)
def ev_ms : Nat → ev_M := fun k => bif Nat.ble k 62 then (bif Nat.ble k 30 then (bif Nat.ble k 14 then (bif Nat.ble k 6 then (bif Nat.ble k 2 then (bif Nat.ble k 0 then (em_0) else (bif Nat.ble k 1 then (em_1) else (em_2))) else (bif Nat.ble k 4 then (bif Nat.ble k 3 then (em_3) else (em_4)) else (bif Nat.ble k 5 then (em_5) else (em_6)))) else (bif Nat.ble k 10 then (bif Nat.ble k 8 then (bif Nat.ble k 7 then (em_7) else (em_8)) else (bif Nat.ble k 9 then (em_9) else (em_10))) else (bif Nat.ble k 12 then (bif Nat.ble k 11 then (em_11) else (em_12)) else (bif Nat.ble k 13 then (em_13) else (em_14))))) else (bif Nat.ble k 22 then (bif Nat.ble k 18 then (bif Nat.ble k 16 then (bif Nat.ble k 15 then (em_15) else (em_16)) else (bif Nat.ble k 17 then (em_17) else (em_18))) else (bif Nat.ble k 20 then (bif Nat.ble k 19 then (em_19) else (em_20)) else (bif Nat.ble k 21 then (em_21) else (em_22)))) else (bif Nat.ble k 26 then (bif Nat.ble k 24 then (bif Nat.ble k 23 then (em_23) else (em_24)) else (bif Nat.ble k 25 then (em_25) else (em_26))) else (bif Nat.ble k 28 then (bif Nat.ble k 27 then (em_27) else (em_28)) else (bif Nat.ble k 29 then (em_29) else (em_30)))))) else (bif Nat.ble k 46 then (bif Nat.ble k 38 then (bif Nat.ble k 34 then (bif Nat.ble k 32 then (bif Nat.ble k 31 then (em_31) else (em_32)) else (bif Nat.ble k 33 then (em_33) else (em_34))) else (bif Nat.ble k 36 then (bif Nat.ble k 35 then (em_35) else (em_36)) else (bif Nat.ble k 37 then (em_37) else (em_38)))) else (bif Nat.ble k 42 then (bif Nat.ble k 40 then (bif Nat.ble k 39 then (em_39) else (em_40)) else (bif Nat.ble k 41 then (em_41) else (em_42))) else (bif Nat.ble k 44 then (bif Nat.ble k 43 then (em_43) else (em_44)) else (bif Nat.ble k 45 then (em_45) else (em_46))))) else (bif Nat.ble k 54 then (bif Nat.ble k 50 then (bif Nat.ble k 48 then (bif Nat.ble k 47 then (em_47) else (em_48)) else (bif Nat.ble k 49 then (em_49) else (em_50))) else (bif Nat.ble k 52 then (bif Nat.ble k 51 then (em_51) else (em_52)) else (bif Nat.ble k 53 then (em_53) else (em_54)))) else (bif Nat.ble k 58 then (bif Nat.ble k 56 then (bif Nat.ble k 55 then (em_55) else (em_56)) else (bif Nat.ble k 57 then (em_57) else (em_58))) else (bif Nat.ble k 60 then (bif Nat.ble k 59 then (em_59) else (em_60)) else (bif Nat.ble k 61 then (em_61) else (em_62))))))) else (bif Nat.ble k 94 then (bif Nat.ble k 78 then (bif Nat.ble k 70 then (bif Nat.ble k 66 then (bif Nat.ble k 64 then (bif Nat.ble k 63 then (em_63) else (em_64)) else (bif Nat.ble k 65 then (em_65) else (em_66))) else (bif Nat.ble k 68 then (bif Nat.ble k 67 then (em_67) else (em_68)) else (bif Nat.ble k 69 then (em_69) else (em_70)))) else (bif Nat.ble k 74 then (bif Nat.ble k 72 then (bif Nat.ble k 71 then (em_71) else (em_72)) else (bif Nat.ble k 73 then (em_73) else (em_74))) else (bif Nat.ble k 76 then (bif Nat.ble k 75 then (em_75) else (em_76)) else (bif Nat.ble k 77 then (em_77) else (em_78))))) else (bif Nat.ble k 86 then (bif Nat.ble k 82 then (bif Nat.ble k 80 then (bif Nat.ble k 79 then (em_79) else (em_80)) else (bif Nat.ble k 81 then (em_81) else (em_82))) else (bif Nat.ble k 84 then (bif Nat.ble k 83 then (em_83) else (em_84)) else (bif Nat.ble k 85 then (em_85) else (em_86)))) else (bif Nat.ble k 90 then (bif Nat.ble k 88 then (bif Nat.ble k 87 then (em_87) else (em_88)) else (bif Nat.ble k 89 then (em_89) else (em_90))) else (bif Nat.ble k 92 then (bif Nat.ble k 91 then (em_91) else (em_92)) else (bif Nat.ble k 93 then (em_93) else (em_94)))))) else (bif Nat.ble k 110 then (bif Nat.ble k 102 then (bif Nat.ble k 98 then (bif Nat.ble k 96 then (bif Nat.ble k 95 then (em_95) else (em_96)) else (bif Nat.ble k 97 then (em_97) else (em_98))) else (bif Nat.ble k 100 then (bif Nat.ble k 99 then (em_99) else (em_100)) else (bif Nat.ble k 101 then (em_101) else (em_102)))) else (bif Nat.ble k 106 then (bif Nat.ble k 104 then (bif Nat.ble k 103 then (em_103) else (em_104)) else (bif Nat.ble k 105 then (em_105) else (em_106))) else (bif Nat.ble k 108 then (bif Nat.ble k 107 then (em_107) else (em_108)) else (bif Nat.ble k 109 then (em_109) else (em_110))))) else (bif Nat.ble k 118 then (bif Nat.ble k 114 then (bif Nat.ble k 112 then (bif Nat.ble k 111 then (em_111) else (em_112)) else (bif Nat.ble k 113 then (em_113) else (em_114))) else (bif Nat.ble k 116 then (bif Nat.ble k 115 then (em_115) else (em_116)) else (bif Nat.ble k 117 then (em_117) else (em_118)))) else (bif Nat.ble k 122 then (bif Nat.ble k 120 then (bif Nat.ble k 119 then (em_119) else (em_120)) else (bif Nat.ble k 121 then (em_121) else (em_122))) else (bif Nat.ble k 124 then (bif Nat.ble k 123 then (em_123) else (em_124)) else (bif Nat.ble k 125 then (em_125) else (em_126)))))))
theorem mok_0 : (∃ ws', em_0.2.2.2.2.2 = .code em_0.1 em_0.2.2.1 em_0.2.2.2.1 em_0.2.2.2.2.1 :: ws') ∧ plainName em_0.1.cls = true ∧ em_0.2.1 = em_0.1.cls ∧ em_0.2.2.2.1 ≤ 40 := ⟨⟨_, rfl⟩, by decide, rfl, by decide⟩
theorem mok_1 : (∃ ws', em_1.2.2.2.2.2 = .code em_1.1 em_1.2.2.1 em_1.2.2.2.1 em_1.2.2.2.2.1 :: ws') ∧ plainName em_1.1.cls = true ∧ em_1.2.1 = em_1.1.cls ∧ em_1.2.2.2.1 ≤ 40 := ⟨⟨_, rfl⟩, by decide, rfl, by decide⟩
theorem mok_2 : (∃ ws', em_2.2.2.2.2.2 = .code em_2.1 em_2.2.2.1 em_2.2.2.2.1 em_2.2.2.2.2.1 :: ws') ∧ plainName em_2.1.cls = true ∧ em_2.2.1 = em_2.1.cls ∧ em_2.2.2.2.1 ≤ 40 := ⟨⟨_, rfl⟩, by decide, rfl, by decide⟩
theorem mok_3 : (∃ ws', em_3.2.2.2.2.2 = .code em_3.1 em_3.2.2.1 em_3.2.2.2.1 em_3.2.2.2.2.1 :: ws') ∧ plainName em_3.1.cls = true ∧ em_3.2.1 = em_3.1.cls ∧ em_3.2.2.2.1 ≤ 40 := ⟨⟨_, rfl⟩, by decide, rfl, by decide⟩
theorem mok_4 : (∃ ws', em_4.2.2.2.2.2 = .code em_4.1 em_4.2.2.1 em_4.2.2.2.1 em_4.2.2.2.2.1 :: ws') ∧ plainName em_4.1.cls = true ∧ em_4.2.1 = em_4.1.cls ∧ em_4.2.2.2.1 ≤ 40 := ⟨⟨_, rfl⟩, by decide, rfl, by decide⟩
theorem mok_5 : (∃ ws', em_5.2.2.2.2.2 = .code em_5.1 em_5.2.2.1 em_5.2.2.2.1 em_5.2.2.2.2.1 :: ws') ∧ plainName em_5.1.cls = true ∧ em_5.2.1 = em_5.1.cls ∧ em_5.2.2.2.1 ≤ 40 := ⟨⟨_, rfl⟩, by decide, rfl, by decide⟩
theorem mok_6 : (∃ ws', em_6.2.2.2.2.2 = .code em_6.1 em_6.2.2.1 em_6.2.2.2.1 em_6.2.2.2.2.1 :: ws') ∧ plainName em_6.1.cls = true ∧ em_6.2.1 = em_6.1.cls ∧ em_6.2.2.2.1 ≤ 40 := ⟨⟨_, rfl⟩, by decide, rfl, by decide⟩
theorem mok_7 : (∃ ws', em_7.2.2.2.2.2 = .code em_7.1 em_7.2.2.1 em_7.2.2.2.1 em_7.2.2.2.2.1 :: ws') ∧ plainName em_7.1.cls = true ∧ em_7.2.1 = em_7.1.cls ∧ em_7.2.2.2.1 ≤ 40 := ⟨⟨_, rfl⟩, by decide, rfl, by decide⟩
theorem mok_8 : (∃ ws', em_8.2.2.2.2.2 = .code em_8.1 em_8.2.2.1 em_8.2.2.2.1 em_8.2.2.2.2.1 :: ws') ∧ plainName em_8.1.cls = true ∧ em_8.2.1 = em_8.1.cls ∧ em_8.2.2.2.1 ≤ 40 := ⟨⟨_, rfl⟩, by decide, rfl, by decide⟩
theorem mok_9 : (∃ ws', em_9.2.2.2.2.2 = .code em_9.1 em_9.2.2.1 em_9.2.2.2.1 em_9.2.2.2.2.1 :: ws') ∧ plainName em_9.1.cls = true ∧ em_9.2.1 = em_9.1.cls ∧ em_9.2.2.2.1 ≤ 40 := ⟨⟨_, rfl⟩, by decide, rfl, by decide⟩
theorem mok_10 : (∃ ws', em_10.2.2.2.2.2 = .code em_10.1 em_10.2.2.1 em_10.2.2.2.1 em_10.2.2.2.2.1 :: ws') ∧ plainName em_10.1.cls = true ∧ em_10.2.1 = em_10.1.cls ∧ em_10.2.2.2.1 ≤ 40 := ⟨⟨_, rfl⟩, by decide, rfl, by decide⟩
theorem mok_11 : (∃ ws', em_11.2.2.2.2.2 = .code em_11.1 em_11.2.2.1 em_11.2.2.2.1 em_11.2.2.2.2.1 :: ws') ∧ plainName em_11.1.cls = true ∧ em_11.2.1 = em_11.1.cls ∧ em_11.2.2.2.1 ≤ 40 := ⟨⟨_, rfl⟩, by decide, rfl, by decide⟩
theorem mok_12 : (∃ ws', em_12.2.2.2.2.2 = .code em_12.1 em_12.2.2.1 em_12.2.2.2.1 em_12.2.2.2.2.1 :: ws') ∧ plainName em_12.1.cls = true ∧ em_12.2.1 = em_12.1.cls ∧ em_12.2.2.2.1 ≤ 40 := ⟨⟨_, rfl⟩, by decide, rfl, by decide⟩
theorem mok_13 : (∃ ws', em_13.2.2.2.2.2 = .code em_13.1 em_13.2.2.1 em_13.2.2.2.1 em_13.2.2.2.2.1 :: ws') ∧ plainName em_13.1.cls = true ∧ em_13.2.1 = em_13.1.cls ∧ em_13.2.2.2.1 ≤ 40 := ⟨⟨_, rfl⟩, by decide, rfl, by decide⟩
theorem mok_14 : (∃ ws', em_14.2.2.2.2.2 = .code em_14.1 em_14.2.2.1 em_14.2.2.2.1 em_14.2.2.2.2.1 :: ws') ∧ plainName em_14.1.cls = true ∧ em_14.2.1 = em_14.1.cls ∧ em_14.2.2.2.1 ≤ 40 := ⟨⟨_, rfl⟩, by decide, rfl, by decide⟩
theorem mok_15 : (∃ ws', em_15.2.2.2.2.2 = .code em_15.1 em_15.2.2.1 em_15.2.2.2.1 em_15.2.2.2.2.1 :: ws') ∧ plainName em_15.1.cls = true ∧ em_15.2.1 = em_15.1.cls ∧ em_15.2.2.2.1 ≤ 40 := ⟨⟨_, rfl⟩, by decide, rfl, by decide⟩
theorem mok_16 : (∃ ws', em_16.2.2.2.2.2 = .code em_16.1 em_16.2.2.1 em_16.2.2.2.1 em_16.2.2.2.2.1 :: ws') ∧ plainName em_16.1.cls = true ∧ em_16.2.1 = em_16.1.cls ∧ em_16.2.2.2.1 ≤ 40 := ⟨⟨_, rfl⟩, by decide, rfl, by decide⟩
theorem mok_17 : (∃ ws', em_17.2.2.2.2.2 = .code em_17.1 em_17.2.2.1 em_17.2.2.2.1 em_17.2.2.2.2.1 :: ws') ∧ plainName em_17.1.cls = true ∧ em_17.2.1 = em_17.1.cls ∧ em_17.2.2.2.1 ≤ 40 := ⟨⟨_, rfl⟩, by decide, rfl, by decide⟩
theorem mok_18 : (∃ ws', em_18.2.2.2.2.2 = .code em_18.1 em_18.2.2.1 em_18.2.2.2.1 em_18.2.2.2.2.1 :: ws') ∧ plainName em_18.1.cls = true ∧ em_18.2.1 = em_18.1.cls ∧ em_18.2.2.2.1 ≤ 40 := ⟨⟨_, rfl⟩, by decide, rfl, by decide⟩
theorem mok_19 : (∃ ws', em_19.2.2.2.2.2 = .code em_19.1 em_19.2.2.1 em_19.2.2.2.1 em_19.2.2.2.2.1 :: ws') ∧ plainName em_19.1.cls = true ∧ em_19.2.1 = em_19.1.cls ∧ em_19.2.2.2.1 ≤ 40 := ⟨⟨_, rfl⟩, by decide, rfl, by decide⟩
theorem mok_20 : (∃ ws', em_20.2.2.2.2.2 = .code em_20.1 em_20.2.2.1 em_20.2.2.2.1 em_20.2.2.2.2.1 :: ws') ∧ plainName em_20.1.cls = true ∧ em_20.2.1 = em_20.1.cls ∧ em_20.2.2.2.1 ≤ 40 := ⟨⟨_, rfl⟩, by decide, rfl, by decide⟩
theorem mok_21 : (∃ ws', em_21.2.2.2.2.2 = .code em_21.1 em_21.2.2.1 em_21.2.2.2.1 em_21.2.2.2.2.1 :: ws') ∧ plainName em_21.1.cls = true ∧ em_21.2.1 = em_21.1.cls ∧ em_21.2.2.2.1 ≤ 40 := ⟨⟨_, rfl⟩, by decide, rfl, by decide⟩
theorem mok_22 : (∃ ws', em_22.2.2.2.2.2 = .code em_22.1 em_22.2.2.1 em_22.2.2.2.1 em_22.2.2.2.2.1 :: ws') ∧ plainName em_22.1.cls = true ∧ em_22.2.1 = em_22.1.cls ∧ em_22.2.2.2.1 ≤ 40 := ⟨⟨_, rfl⟩, by decide, rfl, by decide⟩
theorem mok_23 : (∃ ws', em_23.2.2.2.2.2 = .code em_23.1 em_23.2.2.1 em_23.2.2.2.1 em_23.2.2.2.2.1 :: ws') ∧ plainName em_23.1.cls = true ∧ em_23.2.1 = em_23.1.cls ∧ em_23.2.2.2.1 ≤ 40 := ⟨⟨_, rfl⟩, by decide, rfl, by decide⟩
theorem mok_24 : (∃ ws', em_24.2.2.2.2.2 = .code em_24.1 em_24.2.2.1 em_24.2.2.2.1 em_24.2.2.2.2.1 :: ws') ∧ plainName em_24.1.cls = true ∧ em_24.2.1 = em_24.1.cls ∧ em_24.2.2.2.1 ≤ 40 := ⟨⟨_, rfl⟩, by decide, rfl, by decide⟩
theorem mok_25 : (∃ ws', em_25.2.2.2.2.2 = .code em_25.1 em_25.2.2.1 em_25.2.2.2.1 em_25.2.2.2.2.1 :: ws') ∧ plainName em_25.1.cls = true ∧ em_25.2.1 = em_25.1.cls ∧ em_25.2.2.2.1 ≤ 40 := ⟨⟨_, rfl⟩, by decide, rfl, by decide⟩
theorem mok_26 : (∃ ws', em_26.2.2.2.2.2 = .code em_26.1 em_26.2.2.1 em_26.2.2.2.1 em_26.2.2.2.2.1 :: ws') ∧ plainName em_26.1.cls = true ∧ em_26.2.1 = em_26.1.cls ∧ em_26.2.2.2.1 ≤ 40 := ⟨⟨_, rfl⟩, by decide, rfl, by decide⟩
theorem mok_27 : (∃ ws', em_27.2.2.2.2.2 = .code em_27.1 em_27.2.2.1 em_27.2.2.2.1 em_27.2.2.2.2.1 :: ws') ∧ plainName em_27.1.cls = true ∧ em_27.2.1 = em_27.1.cls ∧ em_27.2.2.2.1 ≤ 40 := ⟨⟨_, rfl⟩, by decide, rfl, by decide⟩
theorem mok_28 : (∃ ws', em_28.2.2.2.2.2 = .code em_28.1 em_28.2.2.1 em_28.2.2.2.1 em_28.2.2.2.2.1 :: ws') ∧ plainName em_28.1.cls = true ∧ em_28.2.1 = em_28.1.cls ∧ em_28.2.2.2.1 ≤ 40 := ⟨⟨_, rfl⟩, by decide, rfl, by decide⟩
theorem mok_29 : (∃ ws', em_29.2.2.2.2.2 = .code em_29.1 em_29.2.2.1 em_29.2.2.2.1 em_29.2.2.2.2.1 :: ws') ∧ plainName em_29.1.cls = true ∧ em_29.2.1 = em_29.1.cls ∧ em_29.2.2.2.1 ≤ 40 := ⟨⟨_, rfl⟩, by decide, rfl, by decide⟩
theorem mok_30 : (∃ ws', em_30.2.2.2.2.2 = .code em_30.1 em_30.2.2.1 em_30.2.2.2.1 em_30.2.2.2.2.1 :: ws') ∧ plainName em_30.1.cls = true ∧ em_30.2.1 = em_30.1.cls ∧ em_30.2.2.2.1 ≤ 40 := ⟨⟨_, rfl⟩, by decide, rfl, by decide⟩
theorem mok_31 : (∃ ws', em_31.2.2.2.2.2 = .code em_31.1 em_31.2.2.1 em_31.2.2.2.1 em_31.2.2.2.2.1 :: ws') ∧ plainName em_31.1.cls = true ∧ em_31.2.1 = em_31.1.cls ∧ em_31.2.2.2.1 ≤ 40 := ⟨⟨_, rfl⟩, by decide, rfl, by decide⟩
theorem mok_32 : (∃ ws', em_32.2.2.2.2.2 = .code em_32.1 em_32.2.2.1 em_32.2.2.2.1 em_32.2.2.2.2.1 :: ws') ∧ plainName em_32.1.cls = true ∧ em_32.2.1 = em_32.1.cls ∧ em_32.2.2.2.1 ≤ 40 := ⟨⟨_, rfl⟩, by decide, rfl, by decide⟩
theorem mok_33 : (∃ ws', em_33.2.2.2.2.2 = .code em_33.1 em_33.2.2.1 em_33.2.2.2.1 em_33.2.2.2.2.1 :: ws') ∧ plainName em_33.1.cls = true ∧ em_33.2.1 = em_33.1.cls ∧ em_33.2.2.2.1 ≤ 40 := ⟨⟨_, rfl⟩, by decide, rfl, by decide⟩
theorem mok_34 : (∃ ws', em_34.2.2.2.2.2 = .code em_34.1 em_34.2.2.1 em_34.2.2.2.1 em_34.2.2.2.2.1 :: ws') ∧ plainName em_34.1.cls = true ∧ em_34.2.1 = em_34.1.cls ∧ em_34.2.2.2.1 ≤ 40 := ⟨⟨_, rfl⟩, by decide, rfl, by decide⟩
theorem mok_35 : (∃ ws', em_35.2.2.2.2.2 = .code em_35.1 em_35.2.2.1 em_35.2.2.2.1 em_35.2.2.2.2.1 :: ws') ∧ plainName em_35.1.cls = true ∧ em_35.2.1 = em_35.1.cls ∧ em_35.2.2.2.1 ≤ 40 := ⟨⟨_, rfl⟩, by decide, rfl, by decide⟩
theorem mok_36 : (∃ ws', em_36.2.2.2.2.2 = .code em_36.1 em_36.2.2.1 em_36.2.2.2.1 em_36.2.2.2.2.1 :: ws') ∧ plainName em_36.1.cls = true ∧ em_36.2.1 = em_36.1.cls ∧ em_36.2.2.2.1 ≤ 40 := ⟨⟨_, rfl⟩, by decide, rfl, by decide⟩
theorem mok_37 : (∃ ws', em_37.2.2.2.2.2 = .code em_37.1 em_37.2.2.1 em_37.2.2.2.1 em_37.2.2.2.2.1 :: ws') ∧ plainName em_37.1.cls = true ∧ em_37.2.1 = em_37.1.cls ∧ em_37.2.2.2.1 ≤ 40 := ⟨⟨_, rfl⟩, by decide, rfl, by decide⟩
theorem mok_38 : (∃ ws', em_38.2.2.2.2.2 = .code em_38.1 em_38.2.2.1 em_38.2.2.2.1 em_38.2.2.2.2.1 :: ws') ∧ plainName em_38.1.cls = true ∧ em_38.2.1 = em_38.1.cls ∧ em_38.2.2.2.1 ≤ 40 := ⟨⟨_, rfl⟩, by decide, rfl, by decide⟩
theorem mok_39 : (∃ ws', em_39.2.2.2.2.2 = .code em_39.1 em_39.2.2.1 em_39.2.2.2.1 em_39.2.2.2.2.1 :: ws') ∧ plainName em_39.1.cls = true ∧ em_39.2.1 = em_39.1.cls ∧ em_39.2.2.2.1 ≤ 40 := ⟨⟨_, rfl⟩, by decide, rfl, by decide⟩
theorem mok_40 : (∃ ws', em_40.2.2.2.2.2 = .code em_40.1 em_40.2.2.1 em_40.2.2.2.1 em_40.2.2.2.2.1 :: ws') ∧ plainName em_40.1.cls = true ∧ em_40.2.1 = em_40.1.cls ∧ em_40.2.2.2.1 ≤ 40 := ⟨⟨_, rfl⟩, by decide, rfl, by decide⟩
theorem mok_41 : (∃ ws', em_41.2.2.2.2.2 = .code em_41.1 em_41.2.2.1 em_41.2.2.2.1 em_41.2.2.2.2.1 :: ws') ∧ plainName em_41.1.cls = true ∧ em_41.2.1 = em_41.1.cls ∧ em_41.2.2.2.1 ≤ 40 := ⟨⟨_, rfl⟩, by decide, rfl, by decide⟩
theorem mok_42 : (∃ ws', em_42.2.2.2.2.2 = .code em_42.1 em_42.2.2.1 em_42.2.2.2.1 em_42.2.2.2.2.1 :: ws') ∧ plainName em_42.1.cls = true ∧ em_42.2.1 = em_42.1.cls ∧ em_42.2.2.2.1 ≤ 40 := ⟨⟨_, rfl⟩, by decide, rfl, by decide⟩
theorem mok_43 : (∃ ws', em_43.2.2.2.2.2 = .code em_43.1 em_43.2.2.1 em_43.2.2.2.1 em_43.2.2.2.2.1 :: ws') ∧ plainName em_43.1.cls = true ∧ em_43.2.1 = em_43.1.cls ∧ em_43.2.2.2.1 ≤ 40 := ⟨⟨_, rfl⟩, by decide, rfl, by decide⟩
theorem mok_44 : (∃ ws', em_44.2.2.2.2.2 = .code em_44.1 em_44.2.2.1 em_44.2.2.2.1 em_44.2.2.2.2.1 :: ws') ∧ plainName em_44.1.cls = true ∧ em_44.2.1 = em_44.1.cls ∧ em_44.2.2.2.1 ≤ 40 := ⟨⟨_, rfl⟩, by decide, rfl, by decide⟩
theorem mok_45 : (∃ ws', em_45.2.2.2.2.2 = .code em_45.1 em_45.2.2.1 em_45.2.2.2.1 em_45.2.2.2.2.1 :: ws') ∧ plainName em_45.1.cls = true ∧ em_45.2.1 = em_45.1.cls ∧ em_45.2.2.2.1 ≤ 40 := ⟨⟨_, rfl⟩, by decide, rfl, by decide⟩
theorem mok_46 : (∃ ws', em_46.2.2.2.2.2 = .code em_46.1 em_46.2.2.1 em_46.2.2.2.1 em_46.2.2.2.2.1 :: ws') ∧ plainName em_46.1.cls = true ∧ em_46.2.1 = em_46.1.cls ∧ em_46.2.2.2.1 ≤ 40 := ⟨⟨_, rfl⟩, by decide, rfl, by decide⟩
theorem mok_47 : (∃ ws', em_47.2.2.2.2.2 = .code em_47.1 em_47.2.2.1 em_47.2.2.2.1 em_47.2.2.2.2.1 :: ws') ∧ plainName em_47.1.cls = true ∧ em_47.2.1 = em_47.1.cls ∧ em_47.2.2.2.1 ≤ 40 := ⟨⟨_, rfl⟩, by decide, rfl, by decide⟩
theorem mok_48 : (∃ ws', em_48.2.2.2.2.2 = .code em_48.1 em_48.2.2.1 em_48.2.2.2.1 em_48.2.2.2.2.1 :: ws') ∧ plainName em_48.1.cls = true ∧ em_48.2.1 = em_48.1.cls ∧ em_48.2.2.2.1 ≤ 40 := ⟨⟨_, rfl⟩, by decide, rfl, by decide⟩
theorem mok_49 : (∃ ws', em_49.2.2.2.2.2 = .code em_49.1 em_49.2.2.1 em_49.2.2.2.1 em_49.2.2.2.2.1 :: ws') ∧ plainName em_49.1.cls = true ∧ em_49.2.1 = em_49.1.cls ∧ em_49.2.2.2.1 ≤ 40 := ⟨⟨_, rfl⟩, by decide, rfl, by decide⟩
theorem mok_50 : (∃ ws', em_50.2.2.2.2.2 = .code em_50.1 em_50.2.2.1 em_50.2.2.2.1 em_50.2.2.2.2.1 :: ws') ∧ plainName em_50.1.cls = true ∧ em_50.2.1 = em_50.1.cls ∧ em_50.2.2.2.1 ≤ 40 := ⟨⟨_, rfl⟩, by decide, rfl, by decide⟩
theorem mok_51 : (∃ ws', em_51.2.2.2.2.2 = .code em_51.1 em_51.2.2.1 em_51.2.2.2.1 em_51.2.2.2.2.1 :: ws') ∧ plainName em_51.1.cls = true ∧ em_51.2.1 = em_51.1.cls ∧ em_51.2.2.2.1 ≤ 40 := ⟨⟨_, rfl⟩, by decide, rfl, by decide⟩
theorem mok_52 : (∃ ws', em_52.2.2.2.2.2 = .code em_52.1 em_52.2.2.1 em_52.2.2.2.1 em_52.2.2.2.2.1 :: ws') ∧ plainName em_52.1.cls = true ∧ em_52.2.1 = em_52.1.cls ∧ em_52.2.2.2.1 ≤ 40 := ⟨⟨_, rfl⟩, by decide, rfl, by decide⟩
theorem mok_53 : (∃ ws', em_53.2.2.2.2.2 = .code em_53.1 em_53.2.2.1 em_53.2.2.2.1 em_53.2.2.2.2.1 :: ws') ∧ plainName em_53.1.cls = true ∧ em_53.2.1 = em_53.1.cls ∧ em_53.2.2.2.1 ≤ 40 := ⟨⟨_, rfl⟩, by decide, rfl, by decide⟩
theorem mok_54 : (∃ ws', em_54.2.2.2.2.2 = .code em_54.1 em_54.2.2.1 em_54.2.2.2.1 em_54.2.2.2.2.1 :: ws') ∧ plainName em_54.1.cls = true ∧ em_54.2.1 = em_54.1.cls ∧ em_54.2.2.2.1 ≤ 40 := ⟨⟨_, rfl⟩, by decide, rfl, by decide⟩
theorem mok_55 : (∃ ws', em_55.2.2.2.2.2 = .code em_55.1 em_55.2.2.1 em_55.2.2.2.1 em_55.2.2.2.2.1 :: ws') ∧ plainName em_55.1.cls = true ∧ em_55.2.1 = em_55.1.cls ∧ em_55.2.2.2.1 ≤ 40 := ⟨⟨_, rfl⟩, by decide, rfl, by decide⟩
theorem mok_56 : (∃ ws', em_56.2.2.2.2.2 = .code em_56.1 em_56.2.2.1 em_56.2.2.2.1 em_56.2.2.2.2.1 :: ws') ∧ plainName em_56.1.cls = true ∧ em_56.2.1 = em_56.1.cls ∧ em_56.2.2.2.1 ≤ 40 := ⟨⟨_, rfl⟩, by decide, rfl, by decide⟩
theorem mok_57 : (∃ ws', em_57.2.2.2.2.2 = .code em_57.1 em_57.2.2.1 em_57.2.2.2.1 em_57.2.2.2.2.1 :: ws') ∧ plainName em_57.1.cls = true ∧ em_57.2.1 = em_57.1.cls ∧ em_57.2.2.2.1 ≤ 40 := ⟨⟨_, rfl⟩, by decide, rfl, by decide⟩
theorem mok_58 : (∃ ws', em_58.2.2.2.2.2 = .code em_58.1 em_58.2.2.1 em_58.2.2.2.1 em_58.2.2.2.2.1 :: ws') ∧ plainName em_58.1.cls = true ∧ em_58.2.1 = em_58.1.cls ∧ em_58.2.2.2.1 ≤ 40 := ⟨⟨_, rfl⟩, by decide, rfl, by decide⟩
theorem mok_59 : (∃ ws', em_59.2.2.2.2.2 = .code em_59.1 em_59.2.2.1 em_59.2.2.2.1 em_59.2.2.2.2.1 :: ws') ∧ plainName em_59.1.cls = true ∧ em_59.2.1 = em_59.1.cls ∧ em_59.2.2.2.1 ≤ 40 := ⟨⟨_, rfl⟩, by decide, rfl, by decide⟩
theorem mok_60 : (∃ ws', em_60.2.2.2.2.2 = .code em_60.1 em_60.2.2.1 em_60.2.2.2.1 em_60.2.2.2.2.1 :: ws') ∧ plainName em_60.1.cls = true ∧ em_60.2.1 = em_60.1.cls ∧ em_60.2.2.2.1 ≤ 40 := ⟨⟨_, rfl⟩, by decide, rfl, by decide⟩
theorem mok_61 : (∃ ws', em_61.2.2.2.2.2 = .code em_61.1 em_61.2.2.1 em_61.2.2.2.1 em_61.2.2.2.2.1 :: ws') ∧ plainName em_61.1.cls = true ∧ em_61.2.1 = em_61.1.cls ∧ em_61.2.2.2.1 ≤ 40 := ⟨⟨_, rfl⟩, by decide, rfl, by decide⟩
theorem mok_62 : (∃ ws', em_62.2.2.2.2.2 = .code em_62.1 em_62.2.2.1 em_62.2.2.2.1 em_62.2.2.2.2.1 :: ws') ∧ plainName em_62.1.cls = true ∧ em_62.2.1 = em_62.1.cls ∧ em_62.2.2.2.1 ≤ 40 := ⟨⟨_, rfl⟩, by decide, rfl, by decide⟩
theorem mok_63 : (∃ ws', em_63.2.2.2.2.2 = .code em_63.1 em_63.2.2.1 em_63.2.2.2.1 em_63.2.2.2.2.1 :: ws') ∧ plainName em_63.1.cls = true ∧ em_63.2.1 = em_63.1.cls ∧ em_63.2.2.2.1 ≤ 40 := ⟨⟨_, rfl⟩, by decide, rfl, by decide⟩
theorem mok_64 : (∃ ws', em_64.2.2.2.2.2 = .code em_64.1 em_64.2.2.1 em_64.2.2.2.1 em_64.2.2.2.2.1 :: ws') ∧ plainName em_64.1.cls = true ∧ em_64.2.1 = em_64.1.cls ∧ em_64.2.2.2.1 ≤ 40 := ⟨⟨_, rfl⟩, by decide, rfl, by decide⟩
theorem mok_65 : (∃ ws', em_65.2.2.2.2.2 = .code em_65.1 em_65.2.2.1 em_65.2.2.2.1 em_65.2.2.2.2.1 :: ws') ∧ plainName em_65.1.cls = true ∧ em_65.2.1 = em_65.1.cls ∧ em_65.2.2.2.1 ≤ 40 := ⟨⟨_, rfl⟩, by decide, rfl, by decide⟩
theorem mok_66 : (∃ ws', em_66.2.2.2.2.2 = .code em_66.1 em_66.2.2.1 em_66.2.2.2.1 em_66.2.2.2.2.1 :: ws') ∧ plainName em_66.1.cls = true ∧ em_66.2.1 = em_66.1.cls ∧ em_66.2.2.2.1 ≤ 40 := ⟨⟨_, rfl⟩, by decide, rfl, by decide⟩
theorem mok_67 : (∃ ws', em_67.2.2.2.2.2 = .code em_67.1 em_67.2.2.1 em_67.2.2.2.1 em_67.2.2.2.2.1 :: ws') ∧ plainName em_67.1.cls = true ∧ em_67.2.1 = em_67.1.cls ∧ em_67.2.2.2.1 ≤ 40 := ⟨⟨_, rfl⟩, by decide, rfl, by decide⟩
theorem mok_68 : (∃ ws', em_68.2.2.2.2.2 = .code em_68.1 em_68.2.2.1 em_68.2.2.2.1 em_68.2.2.2.2.1 :: ws') ∧ plainName em_68.1.cls = true ∧ em_68.2.1 = em_68.1.cls ∧ em_68.2.2.2.1 ≤ 40 := ⟨⟨_, rfl⟩, by decide, rfl, by decide⟩
theorem mok_69 : (∃ ws', em_69.2.2.2.2.2 = .code em_69.1 em_69.2.2.1 em_69.2.2.2.1 em_69.2.2.2.2.1 :: ws') ∧ plainName em_69.1.cls = true ∧ em_69.2.1 = em_69.1.cls ∧ em_69.2.2.2.1 ≤ 40 := ⟨⟨_, rfl⟩, by decide, rfl, by decide⟩
theorem mok_70 : (∃ ws', em_70.2.2.2.2.2 = .code em_70.1 em_70.2.2.1 em_70.2.2.2.1 em_70.2.2.2.2.1 :: ws') ∧ plainName em_70.1.cls = true ∧ em_70.2.1 = em_70.1.cls ∧ em_70.2.2.2.1 ≤ 40 := ⟨⟨_, rfl⟩, by decide, rfl, by decide⟩
theorem mok_71 : (∃ ws', em_71.2.2.2.2.2 = .code em_71.1 em_71.2.2.1 em_71.2.2.2.1 em_71.2.2.2.2.1 :: ws') ∧ plainName em_71.1.cls = true ∧ em_71.2.1 = em_71.1.cls ∧ em_71.2.2.2.1 ≤ 40 := ⟨⟨_, rfl⟩, by decide, rfl, by decide⟩
theorem mok_72 : (∃ ws', em_72.2.2.2.2.2 = .code em_72.1 em_72.2.2.1 em_72.2.2.2.1 em_72.2.2.2.2.1 :: ws') ∧ plainName em_72.1.cls = true ∧ em_72.2.1 = em_72.1.cls ∧ em_72.2.2.2.1 ≤ 40 := ⟨⟨_, rfl⟩, by decide, rfl, by decide⟩
theorem mok_73 : (∃ ws', em_73.2.2.2.2.2 = .code em_73.1 em_73.2.2.1 em_73.2.2.2.1 em_73.2.2.2.2.1 :: ws') ∧ plainName em_73.1.cls = true ∧ em_73.2.1 = em_73.1.cls ∧ em_73.2.2.2.1 ≤ 40 := ⟨⟨_, rfl⟩, by decide, rfl, by decide⟩
theorem mok_74 : (∃ ws', em_74.2.2.2.2.2 = .code em_74.1 em_74.2.2.1 em_74.2.2.2.1 em_74.2.2.2.2.1 :: ws') ∧ plainName em_74.1.cls = true ∧ em_74.2.1 = em_74.1.cls ∧ em_74.2.2.2.1 ≤ 40 := ⟨⟨_, rfl⟩, by decide, rfl, by decide⟩
theorem mok_75 : (∃ ws', em_75.2.2.2.2.2 = .code em_75.1 em_75.2.2.1 em_75.2.2.2.1 em_75.2.2.2.2.1 :: ws') ∧ plainName em_75.1.cls = true ∧ em_75.2.1 = em_75.1.cls ∧ em_75.2.2.2.1 ≤ 40 := ⟨⟨_, rfl⟩, by decide, rfl, by decide⟩
theorem mok_76 : (∃ ws', em_76.2.2.2.2.2 = .code em_76.1 em_76.2.2.1 em_76.2.2.2.1 em_76.2.2.2.2.1 :: ws') ∧ plainName em_76.1.cls = true ∧ em_76.2.1 = em_76.1.cls ∧ em_76.2.2.2.1 ≤ 40 := ⟨⟨_, rfl⟩, by decide, rfl, by decide⟩
theorem mok_77 : (∃ ws', em_77.2.2.2.2.2 = .code em_77.1 em_77.2.2.1 em_77.2.2.2.1 em_77.2.2.2.2.1 :: ws') ∧ plainName em_77.1.cls = true ∧ em_77.2.1 = em_77.1.cls ∧ em_77.2.2.2.1 ≤ 40 := ⟨⟨_, rfl⟩, by decide, rfl, by decide⟩
theorem mok_78 : (∃ ws', em_78.2.2.2.2.2 = .code em_78.1 em_78.2.2.1 em_78.2.2.2.1 em_78.2.2.2.2.1 :: ws') ∧ plainName em_78.1.cls = true ∧ em_78.2.1 = em_78.1.cls ∧ em_78.2.2.2.1 ≤ 40 := ⟨⟨_, rfl⟩, by decide, rfl, by decide⟩
theorem mok_79 : (∃ ws', em_79.2.2.2.2.2 = .code em_79.1 em_79.2.2.1 em_79.2.2.2.1 em_79.2.2.2.2.1 :: ws') ∧ plainName em_79.1.cls = true ∧ em_79.2.1 = em_79.1.cls ∧ em_79.2.2.2.1 ≤ 40 := ⟨⟨_, rfl⟩, by decide, rfl, by decide⟩
theorem mok_80 : (∃ ws', em_80.2.2.2.2.2 = .code em_80.1 em_80.2.2.1 em_80.2.2.2.1 em_80.2.2.2.2.1 :: ws') ∧ plainName em_80.1.cls = true ∧ em_80.2.1 = em_80.1.cls ∧ em_80.2.2.2.1 ≤ 40 := ⟨⟨_, rfl⟩, by decide, rfl, by decide⟩
theorem mok_81 : (∃ ws', em_81.2.2.2.2.2 = .code em_81.1 em_81.2.2.1 em_81.2.2.2.1 em_81.2.2.2.2.1 :: ws') ∧ plainName em_81.1.cls = true ∧ em_81.2.1 = em_81.1.cls ∧ em_81.2.2.2.1 ≤ 40 := ⟨⟨_, rfl⟩, by decide, rfl, by decide⟩
theorem mok_82 : (∃ ws', em_82.2.2.2.2.2 = .code em_82.1 em_82.2.2.1 em_82.2.2.2.1 em_82.2.2.2.2.1 :: ws') ∧ plainName em_82.1.cls = true ∧ em_82.2.1 = em_82.1.cls ∧ em_82.2.2.2.1 ≤ 40 := ⟨⟨_, rfl⟩, by decide, rfl, by decide⟩
theorem mok_83 : (∃ ws', em_83.2.2.2.2.2 = .code em_83.1 em_83.2.2.1 em_83.2.2.2.1 em_83.2.2.2.2.1 :: ws') ∧ plainName em_83.1.cls = true ∧ em_83.2.1 = em_83.1.cls ∧ em_83.2.2.2.1 ≤ 40 := ⟨⟨_, rfl⟩, by decide, rfl, by decide⟩
theorem mok_84 : (∃ ws', em_84.2.2.2.2.2 = .code em_84.1 em_84.2.2.1 em_84.2.2.2.1 em_84.2.2.2.2.1 :: ws') ∧ plainName em_84.1.cls = true ∧ em_84.2.1 = em_84.1.cls ∧ em_84.2.2.2.1 ≤ 40 := ⟨⟨_, rfl⟩, by decide, rfl, by decide⟩
theorem mok_85 : (∃ ws', em_85.2.2.2.2.2 = .code em_85.1 em_85.2.2.1 em_85.2.2.2.1 em_85.2.2.2.2.1 :: ws') ∧ plainName em_85.1.cls = true ∧ em_85.2.1 = em_85.1.cls ∧ em_85.2.2.2.1 ≤ 40 := ⟨⟨_, rfl⟩, by decide, rfl, by decide⟩
theorem mok_86 : (∃ ws', em_86.2.2.2.2.2 = .code em_86.1 em_86.2.2.1 em_86.2.2.2.1 em_86.2.2.2.2.1 :: ws') ∧ plainName em_86.1.cls = true ∧ em_86.2.1 = em_86.1.cls ∧ em_86.2.2.2.1 ≤ 40 := ⟨⟨_, rfl⟩, by decide, rfl, by decide⟩
theorem mok_87 : (∃ ws', em_87.2.2.2.2.2 = .code em_87.1 em_87.2.2.1 em_87.2.2.2.1 em_87.2.2.2.2.1 :: ws') ∧ plainName em_87.1.cls = true ∧ em_87.2.1 = em_87.1.cls ∧ em_87.2.2.2.1 ≤ 40 := ⟨⟨_, rfl⟩, by decide, rfl, by decide⟩
theorem mok_88 : (∃ ws', em_88.2.2.2.2.2 = .code em_88.1 em_88.2.2.1 em_88.2.2.2.1 em_88.2.2.2.2.1 :: ws') ∧ plainName em_88.1.cls = true ∧ em_88.2.1 = em_88.1.cls ∧ em_88.2.2.2.1 ≤ 40 := ⟨⟨_, rfl⟩, by decide, rfl, by decide⟩
theorem mok_89 : (∃ ws', em_89.2.2.2.2.2 = .code em_89.1 em_89.2.2.1 em_89.2.2.2.1 em_89.2.2.2.2.1 :: ws') ∧ plainName em_89.1.cls = true ∧ em_89.2.1 = em_89.1.cls ∧ em_89.2.2.2.1 ≤ 40 := ⟨⟨_, rfl⟩, by decide, rfl, by decide⟩
theorem mok_90 : (∃ ws', em_90.2.2.2.2.2 = .code em_90.1 em_90.2.2.1 em_90.2.2.2.1 em_90.2.2.2.2.1 :: ws') ∧ plainName em_90.1.cls = true ∧ em_90.2.1 = em_90.1.cls ∧ em_90.2.2.2.1 ≤ 40 := ⟨⟨_, rfl⟩, by decide, rfl, by decide⟩
theorem mok_91 : (∃ ws', em_91.2.2.2.2.2 = .code em_91.1 em_91.2.2.1 em_91.2.2.2.1 em_91.2.2.2.2.1 :: ws') ∧ plainName em_91.1.cls = true ∧ em_91.2.1 = em_91.1.cls ∧ em_91.2.2.2.1 ≤ 40 := ⟨⟨_, rfl⟩, by decide, rfl, by decide⟩
theorem mok_92 : (∃ ws', em_92.2.2.2.2.2 = .code em_92.1 em_92.2.2.1 em_92.2.2.2.1 em_92.2.2.2.2.1 :: ws') ∧ plainName em_92.1.cls = true ∧ em_92.2.1 = em_92.1.cls ∧ em_92.2.2.2.1 ≤ 40 := ⟨⟨_, rfl⟩, by decide, rfl, by decide⟩
theorem mok_93 : (∃ ws', em_93.2.2.2.2.2 = .code em_93.1 em_93.2.2.1 em_93.2.2.2.1 em_93.2.2.2.2.1 :: ws') ∧ plainName em_93.1.cls = true ∧ em_93.2.1 = em_93.1.cls ∧ em_93.2.2.2.1 ≤ 40 := ⟨⟨_, rfl⟩, by decide, rfl, by decide⟩
theorem mok_94 : (∃ ws', em_94.2.2.2.2.2 = .code em_94.1 em_94.2.2.1 em_94.2.2.2.1 em_94.2.2.2.2.1 :: ws') ∧ plainName em_94.1.cls = true ∧ em_94.2.1 = em_94.1.cls ∧ em_94.2.2.2.1 ≤ 40 := ⟨⟨_, rfl⟩, by decide, rfl, by decide⟩
theorem mok_95 : (∃ ws', em_95.2.2.2.2.2 = .code em_95.1 em_95.2.2.1 em_95.2.2.2.1 em_95.2.2.2.2.1 :: ws') ∧ plainName em_95.1.cls = true ∧ em_95.2.1 = em_95.1.cls ∧ em_95.2.2.2.1 ≤ 40 := ⟨⟨_, rfl⟩, by decide, rfl, by decide⟩
theorem mok_96 : (∃ ws', em_96.2.2.2.2.2 = .code em_96.1 em_96.2.2.1 em_96.2.2.2.1 em_96.2.2.2.2.1 :: ws') ∧ plainName em_96.1.cls = true ∧ em_96.2.1 = em_96.1.cls ∧ em_96.2.2.2.1 ≤ 40 := ⟨⟨_, rfl⟩, by decide, rfl, by decide⟩
theorem mok_97 : (∃ ws', em_97.2.2.2.2.2 = .code em_97.1 em_97.2.2.1 em_97.2.2.2.1 em_97.2.2.2.2.1 :: ws') ∧ plainName em_97.1.cls = true ∧ em_97.2.1 = em_97.1.cls ∧ em_97.2.2.2.1 ≤ 40 := ⟨⟨_, rfl⟩, by decide, rfl, by decide⟩
theorem mok_98 : (∃ ws', em_98.2.2.2.2.2 = .code em_98.1 em_98.2.2.1 em_98.2.2.2.1 em_98.2.2.2.2.1 :: ws') ∧ plainName em_98.1.cls = true ∧ em_98.2.1 = em_98.1.cls ∧ em_98.2.2.2.1 ≤ 40 := ⟨⟨_, rfl⟩, by decide, rfl, by decide⟩
theorem mok_99 : (∃ ws', em_99.2.2.2.2.2 = .code em_99.1 em_99.2.2.1 em_99.2.2.2.1 em_99.2.2.2.2.1 :: ws') ∧ plainName em_99.1.cls = true ∧ em_99.2.1 = em_99.1.cls ∧ em_99.2.2.2.1 ≤ 40 := ⟨⟨_, rfl⟩, by decide, rfl, by decide⟩
theorem mok_100 : (∃ ws', em_100.2.2.2.2.2 = .code em_100.1 em_100.2.2.1 em_100.2.2.2.1 em_100.2.2.2.2.1 :: ws') ∧ plainName em_100.1.cls = true ∧ em_100.2.1 = em_100.1.cls ∧ em_100.2.2.2.1 ≤ 40 := ⟨⟨_, rfl⟩, by decide, rfl, by decide⟩
theorem mok_101 : (∃ ws', em_101.2.2.2.2.2 = .code em_101.1 em_101.2.2.1 em_101.2.2.2.1 em_101.2.2.2.2.1 :: ws') ∧ plainName em_101.1.cls = true ∧ em_101.2.1 = em_101.1.cls ∧ em_101.2.2.2.1 ≤ 40 := ⟨⟨_, rfl⟩, by decide, rfl, by decide⟩
theorem mok_102 : (∃ ws', em_102.2.2.2.2.2 = .code em_102.1 em_102.2.2.1 em_102.2.2.2.1 em_102.2.2.2.2.1 :: ws') ∧ plainName em_102.1.cls = true ∧ em_102.2.1 = em_102.1.cls ∧ em_102.2.2.2.1 ≤ 40 := ⟨⟨_, rfl⟩, by decide, rfl, by decide⟩
theorem mok_103 : (∃ ws', em_103.2.2.2.2.2 = .code em_103.1 em_103.2.2.1 em_103.2.2.2.1 em_103.2.2.2.2.1 :: ws') ∧ plainName em_103.1.cls = true ∧ em_103.2.1 = em_103.1.cls ∧ em_103.2.2.2.1 ≤ 40 := ⟨⟨_, rfl⟩, by decide, rfl, by decide⟩
theorem mok_104 : (∃ ws', em_104.2.2.2.2.2 = .code em_104.1 em_104.2.2.1 em_104.2.2.2.1 em_104.2.2.2.2.1 :: ws') ∧ plainName em_104.1.cls = true ∧ em_104.2.1 = em_104.1.cls ∧ em_104.2.2.2.1 ≤ 40 := ⟨⟨_, rfl⟩, by decide, rfl, by decide⟩
theorem mok_105 : (∃ ws', em_105.2.2.2.2.2 = .code em_105.1 em_105.2.2.1 em_105.2.2.2.1 em_105.2.2.2.2.1 :: ws') ∧ plainName em_105.1.cls = true ∧ em_105.2.1 = em_105.1.cls ∧ em_105.2.2.2.1 ≤ 40 := ⟨⟨_, rfl⟩, by decide, rfl, by decide⟩
theorem mok_106 : (∃ ws', em_106.2.2.2.2.2 = .code em_106.1 em_106.2.2.1 em_106.2.2.2.1 em_106.2.2.2.2.1 :: ws') ∧ plainName em_106.1.cls = true ∧ em_106.2.1 = em_106.1.cls ∧ em_106.2.2.2.1 ≤ 40 := ⟨⟨_, rfl⟩, by decide, rfl, by decide⟩
theorem mok_107 : (∃ ws', em_107.2.2.2.2.2 = .code em_107.1 em_107.2.2.1 em_107.2.2.2.1 em_107.2.2.2.2.1 :: ws') ∧ plainName em_107.1.cls = true ∧ em_107.2.1 = em_107.1.cls ∧ em_107.2.2.2.1 ≤ 40 := ⟨⟨_, rfl⟩, by decide, rfl, by decide⟩
theorem mok_108 : (∃ ws', em_108.2.2.2.2.2 = .code em_108.1 em_108.2.2.1 em_108.2.2.2.1 em_108.2.2.2.2.1 :: ws') ∧ plainName em_108.1.cls = true ∧ em_108.2.1 = em_108.1.cls ∧ em_108.2.2.2.1 ≤ 40 := ⟨⟨_, rfl⟩, by decide, rfl, by decide⟩
theorem mok_109 : (∃ ws', em_109.2.2.2.2.2 = .code em_109.1 em_109.2.2.1 em_109.2.2.2.1 em_109.2.2.2.2.1 :: ws') ∧ plainName em_109.1.cls = true ∧ em_109.2.1 = em_109.1.cls ∧ em_109.2.2.2.1 ≤ 40 := ⟨⟨_, rfl⟩, by decide, rfl, by decide⟩
theorem mok_110 : (∃ ws', em_110.2.2.2.2.2 = .code em_110.1 em_110.2.2.1 em_110.2.2.2.1 em_110.2.2.2.2.1 :: ws') ∧ plainName em_110.1.cls = true ∧ em_110.2.1 = em_110.1.cls ∧ em_110.2.2.2.1 ≤ 40 := ⟨⟨_, rfl⟩, by decide, rfl, by decide⟩
theorem mok_111 : (∃ ws', em_111.2.2.2.2.2 = .code em_111.1 em_111.2.2.1 em_111.2.2.2.1 em_111.2.2.2.2.1 :: ws') ∧ plainName em_111.1.cls = true ∧ em_111.2.1 = em_111.1.cls ∧ em_111.2.2.2.1 ≤ 40 := ⟨⟨_, rfl⟩, by decide, rfl, by decide⟩
theorem mok_112 : (∃ ws', em_112.2.2.2.2.2 = .code em_112.1 em_112.2.2.1 em_112.2.2.2.1 em_112.2.2.2.2.1 :: ws') ∧ plainName em_112.1.cls = true ∧ em_112.2.1 = em_112.1.cls ∧ em_112.2.2.2.1 ≤ 40 := ⟨⟨_, rfl⟩, by decide, rfl, by decide⟩
theorem mok_113 : (∃ ws', em_113.2.2.2.2.2 = .code em_113.1 em_113.2.2.1 em_113.2.2.2.1 em_113.2.2.2.2.1 :: ws') ∧ plainName em_113.1.cls = true ∧ em_113.2.1 = em_113.1.cls ∧ em_113.2.2.2.1 ≤ 40 := ⟨⟨_, rfl⟩, by decide, rfl, by decide⟩
theorem mok_114 : (∃ ws', em_114.2.2.2.2.2 = .code em_114.1 em_114.2.2.1 em_114.2.2.2.1 em_114.2.2.2.2.1 :: ws') ∧ plainName em_114.1.cls = true ∧ em_114.2.1 = em_114.1.cls ∧ em_114.2.2.2.1 ≤ 40 := ⟨⟨_, rfl⟩, by decide, rfl, by decide⟩
theorem mok_115 : (∃ ws', em_115.2.2.2.2.2 = .code em_115.1 em_115.2.2.1 em_115.2.2.2.1 em_115.2.2.2.2.1 :: ws') ∧ plainName em_115.1.cls = true ∧ em_115.2.1 = em_115.1.cls ∧ em_115.2.2.2.1 ≤ 40 := ⟨⟨_, rfl⟩, by decide, rfl, by decide⟩
theorem mok_116 : (∃ ws', em_116.2.2.2.2.2 = .code em_116.1 em_116.2.2.1 em_116.2.2.2.1 em_116.2.2.2.2.1 :: ws') ∧ plainName em_116.1.cls = true ∧ em_116.2.1 = em_116.1.cls ∧ em_116.2.2.2.1 ≤ 40 := ⟨⟨_, rfl⟩, by decide, rfl, by decide⟩
theorem mok_117 : (∃ ws', em_117.2.2.2.2.2 = .code em_117.1 em_117.2.2.1 em_117.2.2.2.1 em_117.2.2.2.2.1 :: ws') ∧ plainName em_117.1.cls = true ∧ em_117.2.1 = em_117.1.cls ∧ em_117.2.2.2.1 ≤ 40 := ⟨⟨_, rfl⟩, by decide, rfl, by decide⟩
theorem mok_118 : (∃ ws', em_118.2.2.2.2.2 = .code em_118.1 em_118.2.2.1 em_118.2.2.2.1 em_118.2.2.2.2.1 :: ws') ∧ plainName em_118.1.cls = true ∧ em_118.2.1 = em_118.1.cls ∧ em_118.2.2.2.1 ≤ 40 := ⟨⟨_, rfl⟩, by decide, rfl, by decide⟩
theorem mok_119 : (∃ ws', em_119.2.2.2.2.2 = .code em_119.1 em_119.2.2.1 em_119.2.2.2.1 em_119.2.2.2.2.1 :: ws') ∧ plainName em_119.1.cls = true ∧ em_119.2.1 = em_119.1.cls ∧ em_119.2.2.2.1 ≤ 40 := ⟨⟨_, rfl⟩, by decide, rfl, by decide⟩
theorem mok_120 : (∃ ws', em_120.2.2.2.2.2 = .code em_120.1 em_120.2.2.1 em_120.2.2.2.1 em_120.2.2.2.2.1 :: ws') ∧ plainName em_120.1.cls = true ∧ em_120.2.1 = em_120.1.cls ∧ em_120.2.2.2.1 ≤ 40 := ⟨⟨_, rfl⟩, by decide, rfl, by decide⟩
theorem mok_121 : (∃ ws', em_121.2.2.2.2.2 = .code em_121.1 em_121.2.2.1 em_121.2.2.2.1 em_121.2.2.2.2.1 :: ws') ∧ plainName em_121.1.cls = true ∧ em_121.2.1 = em_121.1.cls ∧ em_121.2.2.2.1 ≤ 40 := ⟨⟨_, rfl⟩, by decide, rfl, by decide⟩
theorem mok_122 : (∃ ws', em_122.2.2.2.2.2 = .code em_122.1 em_122.2.2.1 em_122.2.2.2.1 em_122.2.2.2.2.1 :: ws') ∧ plainName em_122.1.cls = true ∧ em_122.2.1 = em_122.1.cls ∧ em_122.2.2.2.1 ≤ 40 := ⟨⟨_, rfl⟩, by decide, rfl, by decide⟩
theorem mok_123 : (∃ ws', em_123.2.2.2.2.2 = .code em_123.1 em_123.2.2.1 em_123.2.2.2.1 em_123.2.2.2.2.1 :: ws') ∧ plainName em_123.1.cls = true ∧ em_123.2.1 = em_123.1.cls ∧ em_123.2.2.2.1 ≤ 40 := ⟨⟨_, rfl⟩, by decide, rfl, by decide⟩
theorem mok_124 : (∃ ws', em_124.2.2.2.2.2 = .code em_124.1 em_124.2.2.1 em_124.2.2.2.1 em_124.2.2.2.2.1 :: ws') ∧ plainName em_124.1.cls = true ∧ em_124.2.1 = em_124.1.cls ∧ em_124.2.2.2.1 ≤ 40 := ⟨⟨_, rfl⟩, by decide, rfl, by decide⟩
theorem mok_125 : (∃ ws', em_125.2.2.2.2.2 = .code em_125.1 em_125.2.2.1 em_125.2.2.2.1 em_125.2.2.2.2.1 :: ws') ∧ plainName em_125.1.cls = true ∧ em_125.2.1 = em_125.1.cls ∧ em_125.2.2.2.1 ≤ 40 := ⟨⟨_, rfl⟩, by decide, rfl, by decide⟩
theorem mok_126 : (∃ ws', em_126.2.2.2.2.2 = .code em_126.1 em_126.2.2.1 em_126.2.2.2.1 em_126.2.2.2.2.1 :: ws') ∧ plainName em_126.1.cls = true ∧ em_126.2.1 = em_126.1.cls ∧ em_126.2.2.2.1 ≤ 40 := ⟨⟨_, rfl⟩, by decide, rfl, by decide⟩
theorem ev_bm {P : ev_M → Prop} {y z : ev_M} (hy : P y) (hz : P z) : ∀ {c : Bool}, P (bif c then y else z)
  | true => hy
  | false => hz
def ev_mP (x : ev_M) : Prop := (∃ ws', x.2.2.2.2.2 = .code x.1 x.2.2.1 x.2.2.2.1 x.2.2.2.2.1 :: ws') ∧ plainName x.1.cls = true ∧ x.2.1 = x.1.cls ∧ x.2.2.2.1 ≤ 40
theorem ev_ms_ok : ev_MetOk ev_ms := fun k => ev_bm (P := ev_mP) (ev_bm (P := ev_mP) (ev_bm (P := ev_mP) (ev_bm (P := ev_mP) (ev_bm (P := ev_mP) (ev_bm (P := ev_mP) (mok_0) (ev_bm (P := ev_mP) (mok_1) (mok_2))) (ev_bm (P := ev_mP) (ev_bm (P := ev_mP) (mok_3) (mok_4)) (ev_bm (P := ev_mP) (mok_5) (mok_6)))) (ev_bm (P := ev_mP) (ev_bm (P := ev_mP) (ev_bm (P := ev_mP) (mok_7) (mok_8)) (ev_bm (P := ev_mP) (mok_9) (mok_10))) (ev_bm (P := ev_mP) (ev_bm (P := ev_mP) (mok_11) (mok_12)) (ev_bm (P := ev_mP) (mok_13) (mok_14))))) (ev_bm (P := ev_mP) (ev_bm (P := ev_mP) (ev_bm (P := ev_mP) (ev_bm (P := ev_mP) (mok_15) (mok_16)) (ev_bm (P := ev_mP) (mok_17) (mok_18))) (ev_bm (P := ev_mP) (ev_bm (P := ev_mP) (mok_19) (mok_20)) (ev_bm (P := ev_mP) (mok_21) (mok_22)))) (ev_bm (P := ev_mP) (ev_bm (P := ev_mP) (ev_bm (P := ev_mP) (mok_23) (mok_24)) (ev_bm (P := ev_mP) (mok_25) (mok_26))) (ev_bm (P := ev_mP) (ev_bm (P := ev_mP) (mok_27) (mok_28)) (ev_bm (P := ev_mP) (mok_29) (mok_30)))))) (ev_bm (P := ev_mP) (ev_bm (P := ev_mP) (ev_bm (P := ev_mP) (ev_bm (P := ev_mP) (ev_bm (P := ev_mP) (mok_31) (mok_32)) (ev_bm (P := ev_mP) (mok_33) (mok_34))) (ev_bm (P := ev_mP) (ev_bm (P := ev_mP) (mok_35) (mok_36)) (ev_bm (P := ev_mP) (mok_37) (mok_38)))) (ev_bm (P := ev_mP) (ev_bm (P := ev_mP) (ev_bm (P := ev_mP) (mok_39) (mok_40)) (ev_bm (P := ev_mP) (mok_41) (mok_42))) (ev_bm (P := ev_mP) (ev_bm (P := ev_mP) (mok_43) (mok_44)) (ev_bm (P := ev_mP) (mok_45) (mok_46))))) (ev_bm (P := ev_mP) (ev_bm (P := ev_mP) (ev_bm (P := ev_mP) (ev_bm (P := ev_mP) (mok_47) (mok_48)) (ev_bm (P := ev_mP) (mok_49) (mok_50))) (ev_bm (P := ev_mP) (ev_bm (P := ev_mP) (mok_51) (mok_52)) (ev_bm (P := ev_mP) (mok_53) (mok_54)))) (ev_bm (P := ev_mP) (ev_bm (P := ev_mP) (ev_bm (P := ev_mP) (mok_55) (mok_56)) (ev_bm (P := ev_mP) (mok_57) (mok_58))) (ev_bm (P := ev_mP) (ev_bm (P := ev_mP) (mok_59) (mok_60)) (ev_bm (P := ev_mP) (mok_61) (mok_62))))))) (ev_bm (P := ev_mP) (ev_bm (P := ev_mP) (ev_bm (P := ev_mP) (ev_bm (P := ev_mP) (ev_bm (P := ev_mP) (ev_bm (P := ev_mP) (mok_63) (mok_64)) (ev_bm (P := ev_mP) (mok_65) (mok_66))) (ev_bm (P := ev_mP) (ev_bm (P := ev_mP) (mok_67) (mok_68)) (ev_bm (P := ev_mP) (mok_69) (mok_70)))) (ev_bm (P := ev_mP) (ev_bm (P := ev_mP) (ev_bm (P := ev_mP) (mok_71) (mok_72)) (ev_bm (P := ev_mP) (mok_73) (mok_74))) (ev_bm (P := ev_mP) (ev_bm (P := ev_mP) (mok_75) (mok_76)) (ev_bm (P := ev_mP) (mok_77) (mok_78))))) (ev_bm (P := ev_mP) (ev_bm (P := ev_mP) (ev_bm (P := ev_mP) (ev_bm (P := ev_mP) (mok_79) (mok_80)) (ev_bm (P := ev_mP) (mok_81) (mok_82))) (ev_bm (P := ev_mP) (ev_bm (P := ev_mP) (mok_83) (mok_84)) (ev_bm (P := ev_mP) (mok_85) (mok_86)))) (ev_bm (P := ev_mP) (ev_bm (P := ev_mP) (ev_bm (P := ev_mP) (mok_87) (mok_88)) (ev_bm (P := ev_mP) (mok_89) (mok_90))) (ev_bm (P := ev_mP) (ev_bm (P := ev_mP) (mok_91) (mok_92)) (ev_bm (P := ev_mP) (mok_93) (mok_94)))))) (ev_bm (P := ev_mP) (ev_bm (P := ev_mP) (ev_bm (P := ev_mP) (ev_bm (P := ev_mP) (ev_bm (P := ev_mP) (mok_95) (mok_96)) (ev_bm (P := ev_mP) (mok_97) (mok_98))) (ev_bm (P := ev_mP) (ev_bm (P := ev_mP) (mok_99) (mok_100)) (ev_bm (P := ev_mP) (mok_101) (mok_102)))) (ev_bm (P := ev_mP) (ev_bm (P := ev_mP) (ev_bm (P := ev_mP) (mok_103) (mok_104)) (ev_bm (P := ev_mP) (mok_105) (mok_106))) (ev_bm (P := ev_mP) (ev_bm (P := ev_mP) (mok_107) (mok_108)) (ev_bm (P := ev_mP) (mok_109) (mok_110))))) (ev_bm (P := ev_mP) (ev_bm (P := ev_mP) (ev_bm (P := ev_mP) (ev_bm (P := ev_mP) (mok_111) (mok_112)) (ev_bm (P := ev_mP) (mok_113) (mok_114))) (ev_bm (P := ev_mP) (ev_bm (P := ev_mP) (mok_115) (mok_116)) (ev_bm (P := ev_mP) (mok_117) (mok_118)))) (ev_bm (P := ev_mP) (ev_bm (P := ev_mP) (ev_bm (P := ev_mP) (mok_119) (mok_120)) (ev_bm (P := ev_mP) (mok_121) (mok_122))) (ev_bm (P := ev_mP) (ev_bm (P := ev_mP) (mok_123) (mok_124)) (ev_bm (P := ev_mP) (mok_125) (mok_126)))))))
def ev_ent (own yn : String) (bytes : ByteArray) (ws : List Cond) (pc : Nat) (x : ev_I) : Prop := decode bytes pc = .ok (x.1, x.2.1) ∧ ev_hk vwCl ev_tl ev_ol ev_df own yn ws x.1 x.2.2.1 x.2.2.2.1 x.2.2.2.2.1 x.2.2.2.2.2 ∧ ev_ck vwCl ev_nl ev_ms own ws x.1 x.2.2.1 x.2.2.2.1 x.2.2.2.2.1 x.2.2.2.2.2
theorem ev_bi {c : Bool} {y z : Option ev_I} {x : ev_I} {P : Prop} (hy : y = some x → P) (hz : z = some x → P) (h : (bif c then y else z) = some x) : P := by
  cases c
  · exact hz h
  · exact hy h
theorem ev_lf {pc n : Nat} {e x : ev_I} {P : Nat → ev_I → Prop} (hp : P n e) (h : (bif Nat.beq pc n then some e else none) = some x) : P pc x := by
  cases hb : Nat.beq pc n with
  | true =>
    rw [hb] at h
    cases h
    rw [Nat.eq_of_beq_eq_true hb]
    exact hp
  | false => rw [hb] at h; cases h
theorem ev_lk2 {k n pc : Nat} {y : Option ev_I} {x : ev_I} {P : Nat → Prop} (hp : y = some x → P n) (h : (bif Nat.beq k n then y else none) = some x) : P k := by
  cases hb : Nat.beq k n with
  | true =>
    rw [hb] at h
    rw [Nat.eq_of_beq_eq_true hb]
    exact hp h
  | false => rw [hb] at h; cases h
