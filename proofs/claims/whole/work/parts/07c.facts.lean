set_option maxRecDepth 100000 in
theorem im_X8_scope : Cond.instanceMethod yX8_scope ∈ gTb ∧ Cond.selects yX8_scope.cls yX8_scope yX8_scope ∈ gTb := ⟨g_tb 1392 rfl rfl, g_tb 1393 rfl rfl⟩
set_option maxRecDepth 100000 in
theorem mf_X8_friendsOf : gMf yX8_friendsOf cX8_friendsOf 8 (some .long) 1 := ⟨g_tb 1402 rfl (by decide +kernel), g_tb 85 rfl rfl, by decide +kernel, by decide +kernel, by decide +kernel, by decide +kernel, by decide⟩
set_option maxRecDepth 100000 in
theorem im_X8_friendsOf : Cond.instanceMethod yX8_friendsOf ∈ gTb ∧ Cond.selects yX8_friendsOf.cls yX8_friendsOf yX8_friendsOf ∈ gTb := ⟨g_tb 1401 rfl rfl, g_tb 72 rfl rfl⟩
set_option maxRecDepth 100000 in
theorem mf_X8_declaration : gMf yX8_declaration cX8_declaration 5 (some .int) 2 := ⟨g_tb 1398 rfl (by decide +kernel), g_tb 85 rfl rfl, by decide +kernel, by decide +kernel, by decide +kernel, by decide +kernel, by decide⟩
set_option maxRecDepth 100000 in
theorem im_X8_declaration : Cond.instanceMethod yX8_declaration ∈ gTb ∧ Cond.selects yX8_declaration.cls yX8_declaration yX8_declaration ∈ gTb := ⟨g_tb 1396 rfl rfl, g_tb 1397 rfl rfl⟩
set_option maxRecDepth 100000 in
theorem mf_X8_reference : gMf yX8_reference cX8_reference 3 (some .int) 2 := ⟨g_tb 1406 rfl (by decide +kernel), g_tb 85 rfl rfl, by decide +kernel, by decide +kernel, by decide +kernel, by decide +kernel, by decide⟩
set_option maxRecDepth 100000 in
theorem im_X8_reference : Cond.instanceMethod yX8_reference ∈ gTb ∧ Cond.selects yX8_reference.cls yX8_reference yX8_reference ∈ gTb := ⟨g_tb 1404 rfl rfl, g_tb 1405 rfl rfl⟩
set_option maxRecDepth 100000 in
theorem mf_X8_meant : gMf yX8_meant cX8_meant 6 (some .int) 2 := ⟨g_tb 1410 rfl (by decide +kernel), g_tb 85 rfl rfl, by decide +kernel, by decide +kernel, by decide +kernel, by decide +kernel, by decide⟩
set_option maxRecDepth 100000 in
theorem im_X8_meant : Cond.instanceMethod yX8_meant ∈ gTb ∧ Cond.selects yX8_meant.cls yX8_meant yX8_meant ∈ gTb := ⟨g_tb 1408 rfl rfl, g_tb 1409 rfl rfl⟩
set_option maxRecDepth 100000 in
theorem mf_X8_friends : gMf yX8_friends cX8_friends 3 (some .boolean) 2 := ⟨g_tb 1414 rfl (by decide +kernel), g_tb 85 rfl rfl, by decide +kernel, by decide +kernel, by decide +kernel, by decide +kernel, by decide⟩
set_option maxRecDepth 100000 in
theorem im_X8_friends : Cond.instanceMethod yX8_friends ∈ gTb ∧ Cond.selects yX8_friends.cls yX8_friends yX8_friends ∈ gTb := ⟨g_tb 1412 rfl rfl, g_tb 1413 rfl rfl⟩
set_option maxRecDepth 100000 in
theorem mf_X8_isName : gMf yX8_isName cX8_isName 3 (some .boolean) 0 := ⟨g_tb 1422 rfl (by decide +kernel), g_tb 85 rfl rfl, by decide +kernel, by decide +kernel, by decide +kernel, by decide +kernel, by decide⟩
set_option maxRecDepth 100000 in
theorem im_X8_isName : Cond.instanceMethod yX8_isName ∈ gTb ∧ Cond.selects yX8_isName.cls yX8_isName yX8_isName ∈ gTb := ⟨g_tb 1421 rfl rfl, g_tb 73 rfl rfl⟩
set_option maxRecDepth 100000 in
theorem mf_X8_isTape : gMf yX8_isTape cX8_isTape 5 (some .boolean) 2 := ⟨g_tb 1426 rfl (by decide +kernel), g_tb 85 rfl rfl, by decide +kernel, by decide +kernel, by decide +kernel, by decide +kernel, by decide⟩
set_option maxRecDepth 100000 in
theorem im_X8_isTape : Cond.instanceMethod yX8_isTape ∈ gTb ∧ Cond.selects yX8_isTape.cls yX8_isTape yX8_isTape ∈ gTb := ⟨g_tb 1425 rfl rfl, g_tb 74 rfl rfl⟩
set_option maxRecDepth 100000 in
theorem mf_X8_rename : gMf yX8_rename cX8_rename 8 (some .int) 1 := ⟨g_tb 1418 rfl (by decide +kernel), g_tb 85 rfl rfl, by decide +kernel, by decide +kernel, by decide +kernel, by decide +kernel, by decide⟩
set_option maxRecDepth 100000 in
theorem im_X8_rename : Cond.instanceMethod yX8_rename ∈ gTb ∧ Cond.selects yX8_rename.cls yX8_rename yX8_rename ∈ gTb := ⟨g_tb 1416 rfl rfl, g_tb 1417 rfl rfl⟩
set_option maxRecDepth 100000 in
theorem mf_X8_build : gMf yX8_build cX8_build 7 (some .boolean) 1 := ⟨g_tb 1430 rfl (by decide +kernel), g_tb 85 rfl rfl, by decide +kernel, by decide +kernel, by decide +kernel, by decide +kernel, by decide⟩
set_option maxRecDepth 100000 in
theorem im_X8_build : Cond.instanceMethod yX8_build ∈ gTb ∧ Cond.selects yX8_build.cls yX8_build yX8_build ∈ gTb := ⟨g_tb 1429 rfl rfl, g_tb 75 rfl rfl⟩
set_option maxRecDepth 100000 in
theorem mf_X8_letter : gMf yX8_letter cX8_letter 2 (some .int) 1 := ⟨g_tb 1434 rfl (by decide +kernel), g_tb 85 rfl rfl, by decide +kernel, by decide +kernel, by decide +kernel, by decide +kernel, by decide⟩
set_option maxRecDepth 100000 in
theorem im_X8_letter : Cond.instanceMethod yX8_letter ∈ gTb ∧ Cond.selects yX8_letter.cls yX8_letter yX8_letter ∈ gTb := ⟨g_tb 1432 rfl rfl, g_tb 1433 rfl rfl⟩
set_option maxRecDepth 100000 in
theorem mf_J13_bitCount_95d88 : gMf yJ13_bitCount_95d88 cJ13_bitCount_95d88 2 (some .int) 1 := ⟨g_tb 695 rfl (by decide +kernel), g_tb 97 rfl rfl, by decide +kernel, by decide +kernel, by decide +kernel, by decide +kernel, by decide⟩
set_option maxRecDepth 100000 in
theorem sm_J13_bitCount_95d88 : Cond.static yJ13_bitCount_95d88 ∈ gTb := g_tb 694 rfl rfl
set_option maxRecDepth 100000 in
theorem mf_J0_charAt_5068e : gMf yJ0_charAt_5068e cJ0_charAt_5068e 2 (some .char) 1 := ⟨g_tb 438 rfl (by decide +kernel), g_tb 91 rfl rfl, by decide +kernel, by decide +kernel, by decide +kernel, by decide +kernel, by decide⟩
set_option maxRecDepth 100000 in
theorem im_J0_charAt_5068e : Cond.instanceMethod yJ0_charAt_5068e ∈ gTb ∧ Cond.selects yJ0_charAt_5068e.cls yJ0_charAt_5068e yJ0_charAt_5068e ∈ gTb := ⟨g_tb 436 rfl rfl, g_tb 437 rfl rfl⟩
set_option maxRecDepth 100000 in
theorem mf_J0_indexOf_0f7a4 : gMf yJ0_indexOf_0f7a4 cJ0_indexOf_0f7a4 2 (some .int) 1 := ⟨g_tb 487 rfl (by decide +kernel), g_tb 91 rfl rfl, by decide +kernel, by decide +kernel, by decide +kernel, by decide +kernel, by decide⟩
set_option maxRecDepth 100000 in
theorem im_J0_indexOf_0f7a4 : Cond.instanceMethod yJ0_indexOf_0f7a4 ∈ gTb ∧ Cond.selects yJ0_indexOf_0f7a4.cls yJ0_indexOf_0f7a4 yJ0_indexOf_0f7a4 ∈ gTb := ⟨g_tb 485 rfl rfl, g_tb 486 rfl rfl⟩
set_option maxRecDepth 100000 in
theorem mf_J0_indexOf_7cf53 : gMf yJ0_indexOf_7cf53 cJ0_indexOf_7cf53 3 (some .int) 2 := ⟨g_tb 491 rfl (by decide +kernel), g_tb 91 rfl rfl, by decide +kernel, by decide +kernel, by decide +kernel, by decide +kernel, by decide⟩
set_option maxRecDepth 100000 in
theorem im_J0_indexOf_7cf53 : Cond.instanceMethod yJ0_indexOf_7cf53 ∈ gTb ∧ Cond.selects yJ0_indexOf_7cf53.cls yJ0_indexOf_7cf53 yJ0_indexOf_7cf53 ∈ gTb := ⟨g_tb 489 rfl rfl, g_tb 490 rfl rfl⟩
set_option maxRecDepth 100000 in
theorem mf_J0_isLatin1_aae02 : gMf yJ0_isLatin1_aae02 cJ0_isLatin1_aae02 1 (some .boolean) 0 := ⟨g_tb 442 rfl (by decide +kernel), g_tb 91 rfl rfl, by decide +kernel, by decide +kernel, by decide +kernel, by decide +kernel, by decide⟩
set_option maxRecDepth 100000 in
theorem im_J0_isLatin1_aae02 : Cond.instanceMethod yJ0_isLatin1_aae02 ∈ gTb ∧ Cond.selects yJ0_isLatin1_aae02.cls yJ0_isLatin1_aae02 yJ0_isLatin1_aae02 ∈ gTb := ⟨g_tb 440 rfl rfl, g_tb 441 rfl rfl⟩
set_option maxRecDepth 100000 in
theorem mf_J1_charAt_3b067 : gMf yJ1_charAt_3b067 cJ1_charAt_3b067 2 (some .char) 2 := ⟨g_tb 447 rfl (by decide +kernel), g_tb 92 rfl rfl, by decide +kernel, by decide +kernel, by decide +kernel, by decide +kernel, by decide⟩
set_option maxRecDepth 100000 in
theorem sm_J1_charAt_3b067 : Cond.static yJ1_charAt_3b067 ∈ gTb := g_tb 446 rfl rfl
set_option maxRecDepth 100000 in
theorem mf_J1_canEncode_9a6ad : gMf yJ1_canEncode_9a6ad cJ1_canEncode_9a6ad 1 (some .boolean) 1 := ⟨g_tb 505 rfl (by decide +kernel), g_tb 92 rfl rfl, by decide +kernel, by decide +kernel, by decide +kernel, by decide +kernel, by decide⟩
set_option maxRecDepth 100000 in
theorem sm_J1_canEncode_9a6ad : Cond.static yJ1_canEncode_9a6ad ∈ gTb := g_tb 504 rfl rfl
set_option maxRecDepth 100000 in
theorem mf_J1_indexOf_4cfef : gMf yJ1_indexOf_4cfef cJ1_indexOf_4cfef 4 (some .int) 4 := ⟨g_tb 502 rfl (by decide +kernel), g_tb 92 rfl rfl, by decide +kernel, by decide +kernel, by decide +kernel, by decide +kernel, by decide⟩
set_option maxRecDepth 100000 in
theorem sm_J1_indexOf_4cfef : Cond.static yJ1_indexOf_4cfef ∈ gTb := g_tb 501 rfl rfl
set_option maxRecDepth 100000 in
theorem mf_J1_indexOfChar_4cfef : gMf yJ1_indexOfChar_4cfef cJ1_indexOfChar_4cfef 6 (some .int) 4 := ⟨g_tb 514 rfl (by decide +kernel), g_tb 92 rfl rfl, by decide +kernel, by decide +kernel, by decide +kernel, by decide +kernel, by decide⟩
set_option maxRecDepth 100000 in
theorem sm_J1_indexOfChar_4cfef : Cond.static yJ1_indexOfChar_4cfef ∈ gTb := g_tb 513 rfl rfl
set_option maxRecDepth 100000 in
theorem lm_ScopeGraph_21 : Cond.methodLink RX7 21 yX2_init ∈ gTb ∨ ∃ host, Cond.methodLinkNest RX7 21 yX2_init host ∈ gNb := Or.inl (g_tb 125 rfl rfl)
set_option maxRecDepth 100000 in
theorem lm_ScopeGraph_41 : Cond.methodLink RX7 41 yX3_init ∈ gTb ∨ ∃ host, Cond.methodLinkNest RX7 41 yX3_init host ∈ gNb := Or.inl (g_tb 264 rfl rfl)
set_option maxRecDepth 100000 in
theorem lm_ScopeGraph_50 : Cond.methodLink RX7 50 yX4_init ∈ gTb ∨ ∃ host, Cond.methodLinkNest RX7 50 yX4_init host ∈ gNb := Or.inl (g_tb 334 rfl rfl)
set_option maxRecDepth 100000 in
theorem lm_ScopeGraph_71 : Cond.methodLink RX7 71 yX5_addFour ∈ gTb ∨ ∃ host, Cond.methodLinkNest RX7 71 yX5_addFour host ∈ gNb := Or.inl (g_tb 796 rfl rfl)
set_option maxRecDepth 100000 in
theorem lm_ScopeGraph_80 : Cond.methodLink RX7 80 yX3_parse ∈ gTb ∨ ∃ host, Cond.methodLinkNest RX7 80 yX3_parse host ∈ gNb := Or.inl (g_tb 386 rfl rfl)
set_option maxRecDepth 100000 in
theorem lm_ScopeGraph_84 : Cond.methodLink RX7 84 yX7_swapTapes ∈ gTb ∨ ∃ host, Cond.methodLinkNest RX7 84 yX7_swapTapes host ∈ gNb := Or.inl (g_tb 662 rfl rfl)
set_option maxRecDepth 100000 in
theorem lm_ScopeGraph_87 : Cond.methodLink RX7 87 yX1_compareNames ∈ gTb ∨ ∃ host, Cond.methodLinkNest RX7 87 yX1_compareNames host ∈ gNb := Or.inl (g_tb 666 rfl rfl)
set_option maxRecDepth 100000 in
theorem lm_ScopeGraph_90 : Cond.methodLink RX7 90 yX4_resolve ∈ gTb ∨ ∃ host, Cond.methodLinkNest RX7 90 yX4_resolve host ∈ gNb := Or.inl (g_tb 674 rfl rfl)
set_option maxRecDepth 100000 in
theorem lm_ScopeGraph_96 : Cond.methodLink RX7 96 yX3_place ∈ gTb ∨ ∃ host, Cond.methodLinkNest RX7 96 yX3_place host ∈ gNb := Or.inl (g_tb 713 rfl rfl)
set_option maxRecDepth 100000 in
theorem lm_ScopeGraph_110 : Cond.methodLink RX7 110 yX2_importsInAll ∈ gTb ∨ ∃ host, Cond.methodLinkNest RX7 110 yX2_importsInAll host ∈ gNb := Or.inl (g_tb 836 rfl rfl)
set_option maxRecDepth 100000 in
theorem lm_ScopeGraph_113 : Cond.methodLink RX7 113 yX1_howManyMean ∈ gTb ∨ ∃ host, Cond.methodLinkNest RX7 113 yX1_howManyMean host ∈ gNb := Or.inl (g_tb 840 rfl rfl)
set_option maxRecDepth 100000 in
theorem lm_ScopeGraph_135 : Cond.methodLink RX7 135 yJ13_bitCount_95d88 ∈ gTb ∨ ∃ host, Cond.methodLinkNest RX7 135 yJ13_bitCount_95d88 host ∈ gNb := Or.inl (g_tb 693 rfl rfl)
set_option maxRecDepth 100000 in
theorem lm_ScopeGraph_141 : Cond.methodLink RX7 141 yX2_referencesIn ∈ gTb ∨ ∃ host, Cond.methodLinkNest RX7 141 yX2_referencesIn host ∈ gNb := Or.inl (g_tb 869 rfl rfl)
set_option maxRecDepth 100000 in
theorem lm_ScopeGraph_145 : Cond.methodLink RX7 145 yX2_importsOf ∈ gTb ∨ ∃ host, Cond.methodLinkNest RX7 145 yX2_importsOf host ∈ gNb := Or.inl (g_tb 873 rfl rfl)
set_option maxRecDepth 100000 in
theorem lm_ScopeGraph_148 : Cond.methodLink RX7 148 yX0_has ∈ gTb ∨ ∃ host, Cond.methodLinkNest RX7 148 yX0_has host ∈ gNb := Or.inl (g_tb 884 rfl rfl)
set_option maxRecDepth 100000 in
theorem lm_ScopeGraph_162 : Cond.methodLink RX7 162 yX1_friendsOf ∈ gTb ∨ ∃ host, Cond.methodLinkNest RX7 162 yX1_friendsOf host ∈ gNb := Or.inl (g_tb 889 rfl rfl)
set_option maxRecDepth 100000 in
theorem lm_ScopeGraph_166 : Cond.methodLink RX7 166 yX1_usersOf ∈ gTb ∨ ∃ host, Cond.methodLinkNest RX7 166 yX1_usersOf host ∈ gNb := Or.inl (g_tb 893 rfl rfl)
set_option maxRecDepth 100000 in
theorem lm_ScopeGraph_186 : Cond.methodLink RX7 186 yX7_lowest ∈ gTb ∨ ∃ host, Cond.methodLinkNest RX7 186 yX7_lowest host ∈ gNb := Or.inl (g_tb 913 rfl rfl)
set_option maxRecDepth 100000 in
theorem lm_ScopeGraph_193 : Cond.methodLink RX7 193 yX6_areJustOneName ∈ gTb ∨ ∃ host, Cond.methodLinkNest RX7 193 yX6_areJustOneName host ∈ gNb := Or.inl (g_tb 928 rfl rfl)
set_option maxRecDepth 100000 in
theorem lm_ScopeGraph_199 : Cond.methodLink RX7 199 yX1_supposeName ∈ gTb ∨ ∃ host, Cond.methodLinkNest RX7 199 yX1_supposeName host ∈ gNb := Or.inl (g_tb 934 rfl rfl)
set_option maxRecDepth 100000 in
theorem lm_ScopeGraph_203 : Cond.methodLink RX7 203 yX1_agreesWith ∈ gTb ∨ ∃ host, Cond.methodLinkNest RX7 203 yX1_agreesWith host ∈ gNb := Or.inl (g_tb 944 rfl rfl)
set_option maxRecDepth 100000 in
theorem lm_ScopeGraph_207 : Cond.methodLink RX7 207 yX0_lengthOf ∈ gTb ∨ ∃ host, Cond.methodLinkNest RX7 207 yX0_lengthOf host ∈ gNb := Or.inl (g_tb 948 rfl rfl)
set_option maxRecDepth 100000 in
theorem lm_ScopeGraph_213 : Cond.methodLink RX7 213 yX7_writeNewText ∈ gTb ∨ ∃ host, Cond.methodLinkNest RX7 213 yX7_writeNewText host ∈ gNb := Or.inl (g_tb 953 rfl rfl)
set_option maxRecDepth 100000 in
theorem lm_ScopeGraph_219 : Cond.methodLink RX7 219 yX5_at ∈ gTb ∨ ∃ host, Cond.methodLinkNest RX7 219 yX5_at host ∈ gNb := Or.inl (g_tb 970 rfl rfl)
set_option maxRecDepth 100000 in
theorem lm_ScopeGraph_222 : Cond.methodLink RX7 222 yX0_standsAt ∈ gTb ∨ ∃ host, Cond.methodLinkNest RX7 222 yX0_standsAt host ∈ gNb := Or.inl (g_tb 957 rfl rfl)
set_option maxRecDepth 100000 in
theorem lm_ScopeGraph_226 : Cond.methodLink RX7 226 yX0_move ∈ gTb ∨ ∃ host, Cond.methodLinkNest RX7 226 yX0_move host ∈ gNb := Or.inl (g_tb 961 rfl rfl)
set_option maxRecDepth 100000 in
theorem lm_ScopeGraph_237 : Cond.methodLink RX7 237 yX5_addName ∈ gTb ∨ ∃ host, Cond.methodLinkNest RX7 237 yX5_addName host ∈ gNb := Or.inl (g_tb 965 rfl rfl)
set_option maxRecDepth 100000 in
theorem lm_ScopeGraph_241 : Cond.methodLink RX7 241 yX5_add ∈ gTb ∨ ∃ host, Cond.methodLinkNest RX7 241 yX5_add host ∈ gNb := Or.inl (g_tb 971 rfl rfl)
set_option maxRecDepth 100000 in
theorem lm_ScopeGraph_Marks_41 : Cond.methodLink RX0 41 yX0_has ∈ gTb ∨ ∃ host, Cond.methodLinkNest RX0 41 yX0_has host ∈ gNb := Or.inl (g_tb 942 rfl rfl)
set_option maxRecDepth 100000 in
theorem lm_ScopeGraph_Meaning_46 : Cond.methodLink RX1 46 yX0_named ∈ gTb ∨ ∃ host, Cond.methodLinkNest RX1 46 yX0_named host ∈ gNb := Or.inl (g_tb 670 rfl rfl)
set_option maxRecDepth 100000 in
theorem lm_ScopeGraph_Meaning_59 : Cond.methodLink RX1 59 yX0_isNamed ∈ gTb ∨ ∃ host, Cond.methodLinkNest RX1 59 yX0_isNamed host ∈ gNb := Or.inl (g_tb 938 rfl rfl)
set_option maxRecDepth 100000 in
theorem lm_ScopeGraph_Meaning_65 : Cond.methodLink RX1 65 yJ13_bitCount_95d88 ∈ gTb ∨ ∃ host, Cond.methodLinkNest RX1 65 yJ13_bitCount_95d88 host ∈ gNb := Or.inl (g_tb 844 rfl rfl)
set_option maxRecDepth 100000 in
theorem lm_ScopeGraph_Program_11 : Cond.methodLink RX2 11 yX0_init ∈ gTb ∨ ∃ host, Cond.methodLinkNest RX2 11 yX0_init host ∈ gNb := Or.inl (g_tb 131 rfl rfl)
set_option maxRecDepth 100000 in
theorem lm_ScopeGraph_Program_52 : Cond.methodLink RX2 52 yX2_empty ∈ gTb ∨ ∃ host, Cond.methodLinkNest RX2 52 yX2_empty host ∈ gNb := Or.inl (g_tb 164 rfl rfl)
set_option maxRecDepth 100000 in
theorem lm_ScopeGraph_Program_65 : Cond.methodLink RX2 65 yX2_makeScope ∈ gTb ∨ ∃ host, Cond.methodLinkNest RX2 65 yX2_makeScope host ∈ gNb := Or.inl (g_tb 168 rfl rfl)
set_option maxRecDepth 100000 in
theorem lm_ScopeGraph_Program_69 : Cond.methodLink RX2 69 yX0_add ∈ gTb ∨ ∃ host, Cond.methodLinkNest RX2 69 yX0_add host ∈ gNb := Or.inl (g_tb 594 rfl rfl)
set_option maxRecDepth 100000 in
theorem lm_ScopeGraph_Reader_32 : Cond.methodLink RX3 32 yX2_empty ∈ gTb ∨ ∃ host, Cond.methodLinkNest RX3 32 yX2_empty host ∈ gNb := Or.inl (g_tb 390 rfl rfl)
set_option maxRecDepth 100000 in
theorem lm_ScopeGraph_Reader_37 : Cond.methodLink RX3 37 yX6_begin ∈ gTb ∨ ∃ host, Cond.methodLinkNest RX3 37 yX6_begin host ∈ gNb := Or.inl (g_tb 391 rfl rfl)
set_option maxRecDepth 100000 in
theorem lm_ScopeGraph_Reader_53 : Cond.methodLink RX3 53 yX6_advance ∈ gTb ∨ ∃ host, Cond.methodLinkNest RX3 53 yX6_advance host ∈ gNb := Or.inl (g_tb 395 rfl rfl)
set_option maxRecDepth 100000 in
theorem lm_ScopeGraph_Reader_60 : Cond.methodLink RX3 60 yX3_take ∈ gTb ∨ ∃ host, Cond.methodLinkNest RX3 60 yX3_take host ∈ gNb := Or.inl (g_tb 550 rfl rfl)
set_option maxRecDepth 100000 in
theorem lm_ScopeGraph_Reader_67 : Cond.methodLink RX3 67 yX3_takeDec ∈ gTb ∨ ∃ host, Cond.methodLinkNest RX3 67 yX3_takeDec host ∈ gNb := Or.inl (g_tb 554 rfl rfl)
set_option maxRecDepth 100000 in
theorem lm_ScopeGraph_Reader_70 : Cond.methodLink RX3 70 yX3_turnTo ∈ gTb ∨ ∃ host, Cond.methodLinkNest RX3 70 yX3_turnTo host ∈ gNb := Or.inl (g_tb 558 rfl rfl)
set_option maxRecDepth 100000 in
theorem lm_ScopeGraph_Reader_73 : Cond.methodLink RX3 73 yX3_openTo ∈ gTb ∨ ∃ host, Cond.methodLinkNest RX3 73 yX3_openTo host ∈ gNb := Or.inl (g_tb 578 rfl rfl)
set_option maxRecDepth 100000 in
theorem lm_ScopeGraph_Reader_76 : Cond.methodLink RX3 76 yX3_takeAtom ∈ gTb ∨ ∃ host, Cond.methodLinkNest RX3 76 yX3_takeAtom host ∈ gNb := Or.inl (g_tb 582 rfl rfl)
set_option maxRecDepth 100000 in
theorem lm_ScopeGraph_Reader_79 : Cond.methodLink RX3 79 yX3_takeBehindAtom ∈ gTb ∨ ∃ host, Cond.methodLinkNest RX3 79 yX3_takeBehindAtom host ∈ gNb := Or.inl (g_tb 607 rfl rfl)
set_option maxRecDepth 100000 in
theorem lm_ScopeGraph_Reader_82 : Cond.methodLink RX3 82 yX3_takeName ∈ gTb ∨ ∃ host, Cond.methodLinkNest RX3 82 yX3_takeName host ∈ gNb := Or.inl (g_tb 634 rfl rfl)
set_option maxRecDepth 100000 in
theorem lm_ScopeGraph_Reader_86 : Cond.methodLink RX3 86 yX3_topFrame ∈ gTb ∨ ∃ host, Cond.methodLinkNest RX3 86 yX3_topFrame host ∈ gNb := Or.inl (g_tb 562 rfl rfl)
set_option maxRecDepth 100000 in
theorem lm_ScopeGraph_Reader_89 : Cond.methodLink RX3 89 yX3_closeTo ∈ gTb ∨ ∃ host, Cond.methodLinkNest RX3 89 yX3_closeTo host ∈ gNb := Or.inl (g_tb 566 rfl rfl)
set_option maxRecDepth 100000 in
theorem lm_ScopeGraph_Reader_92 : Cond.methodLink RX3 92 yX3_takeFirstOfLong ∈ gTb ∨ ∃ host, Cond.methodLinkNest RX3 92 yX3_takeFirstOfLong host ∈ gNb := Or.inl (g_tb 586 rfl rfl)
set_option maxRecDepth 100000 in
theorem lm_ScopeGraph_Reader_95 : Cond.methodLink RX3 95 yX3_push ∈ gTb ∨ ∃ host, Cond.methodLinkNest RX3 95 yX3_push host ∈ gNb := Or.inl (g_tb 598 rfl rfl)
set_option maxRecDepth 100000 in
theorem lm_ScopeGraph_Reader_99 : Cond.methodLink RX3 99 yX3_takeScopeWord ∈ gTb ∨ ∃ host, Cond.methodLinkNest RX3 99 yX3_takeScopeWord host ∈ gNb := Or.inl (g_tb 602 rfl rfl)
set_option maxRecDepth 100000 in
theorem lm_ScopeGraph_Reader_103 : Cond.methodLink RX3 103 yX2_makeScope ∈ gTb ∨ ∃ host, Cond.methodLinkNest RX3 103 yX2_makeScope host ∈ gNb := Or.inl (g_tb 606 rfl rfl)
set_option maxRecDepth 100000 in
theorem lm_ScopeGraph_Reader_106 : Cond.methodLink RX3 106 yX3_takeImportEnd ∈ gTb ∨ ∃ host, Cond.methodLinkNest RX3 106 yX3_takeImportEnd host ∈ gNb := Or.inl (g_tb 611 rfl rfl)
set_option maxRecDepth 100000 in
theorem lm_ScopeGraph_Reader_109 : Cond.methodLink RX3 109 yX3_popTo ∈ gTb ∨ ∃ host, Cond.methodLinkNest RX3 109 yX3_popTo host ∈ gNb := Or.inl (g_tb 570 rfl rfl)
set_option maxRecDepth 100000 in
theorem lm_ScopeGraph_Reader_112 : Cond.methodLink RX3 112 yX3_hasBinds ∈ gTb ∨ ∃ host, Cond.methodLinkNest RX3 112 yX3_hasBinds host ∈ gNb := Or.inl (g_tb 619 rfl rfl)
set_option maxRecDepth 100000 in
theorem lm_ScopeGraph_Reader_116 : Cond.methodLink RX3 116 yX3_takeIn ∈ gTb ∨ ∃ host, Cond.methodLinkNest RX3 116 yX3_takeIn host ∈ gNb := Or.inl (g_tb 622 rfl rfl)
set_option maxRecDepth 100000 in
theorem lm_ScopeGraph_Reader_119 : Cond.methodLink RX3 119 yX3_takeModuleName ∈ gTb ∨ ∃ host, Cond.methodLinkNest RX3 119 yX3_takeModuleName host ∈ gNb := Or.inl (g_tb 638 rfl rfl)
set_option maxRecDepth 100000 in
theorem lm_ScopeGraph_Reader_122 : Cond.methodLink RX3 122 yX3_takeImportName ∈ gTb ∨ ∃ host, Cond.methodLinkNest RX3 122 yX3_takeImportName host ∈ gNb := Or.inl (g_tb 646 rfl rfl)
set_option maxRecDepth 100000 in
theorem lm_ScopeGraph_Reader_125 : Cond.methodLink RX3 125 yX3_declareIn ∈ gTb ∨ ∃ host, Cond.methodLinkNest RX3 125 yX3_declareIn host ∈ gNb := Or.inl (g_tb 650 rfl rfl)
set_option maxRecDepth 100000 in
theorem lm_ScopeGraph_Reader_128 : Cond.methodLink RX3 128 yX3_topInner ∈ gTb ∨ ∃ host, Cond.methodLinkNest RX3 128 yX3_topInner host ∈ gNb := Or.inl (g_tb 626 rfl rfl)
set_option maxRecDepth 100000 in
theorem lm_ScopeGraph_Reader_131 : Cond.methodLink RX3 131 yX3_takeBindName ∈ gTb ∨ ∃ host, Cond.methodLinkNest RX3 131 yX3_takeBindName host ∈ gNb := Or.inl (g_tb 654 rfl rfl)
set_option maxRecDepth 100000 in
theorem lm_ScopeGraph_Reader_134 : Cond.methodLink RX3 134 yX3_takeNextOfLong ∈ gTb ∨ ∃ host, Cond.methodLinkNest RX3 134 yX3_takeNextOfLong host ∈ gNb := Or.inl (g_tb 658 rfl rfl)
set_option maxRecDepth 100000 in
theorem lm_ScopeGraph_Reader_137 : Cond.methodLink RX3 137 yX2_declare ∈ gTb ∨ ∃ host, Cond.methodLinkNest RX3 137 yX2_declare host ∈ gNb := Or.inl (g_tb 642 rfl rfl)
set_option maxRecDepth 100000 in
theorem lm_ScopeGraph_Reader_159 : Cond.methodLink RX3 159 yX2_importFrom ∈ gTb ∨ ∃ host, Cond.methodLinkNest RX3 159 yX2_importFrom host ∈ gNb := Or.inl (g_tb 615 rfl rfl)
set_option maxRecDepth 100000 in
theorem lm_ScopeGraph_Reader_162 : Cond.methodLink RX3 162 yX3_topOuter ∈ gTb ∨ ∃ host, Cond.methodLinkNest RX3 162 yX3_topOuter host ∈ gNb := Or.inl (g_tb 574 rfl rfl)
set_option maxRecDepth 100000 in
theorem lm_ScopeGraph_Reader_168 : Cond.methodLink RX3 168 yX3_setTop ∈ gTb ∨ ∃ host, Cond.methodLinkNest RX3 168 yX3_setTop host ∈ gNb := Or.inl (g_tb 630 rfl rfl)
set_option maxRecDepth 100000 in
theorem lm_ScopeGraph_Reader_171 : Cond.methodLink RX3 171 yX2_refer ∈ gTb ∨ ∃ host, Cond.methodLinkNest RX3 171 yX2_refer host ∈ gNb := Or.inl (g_tb 590 rfl rfl)
set_option maxRecDepth 100000 in
theorem lm_ScopeGraph_Resolver_29 : Cond.methodLink RX4 29 yX4_followStatements ∈ gTb ∨ ∃ host, Cond.methodLinkNest RX4 29 yX4_followStatements host ∈ gNb := Or.inl (g_tb 678 rfl rfl)
set_option maxRecDepth 100000 in
theorem lm_ScopeGraph_Resolver_46 : Cond.methodLink RX4 46 yX4_means ∈ gTb ∨ ∃ host, Cond.methodLinkNest RX4 46 yX4_means host ∈ gNb := Or.inl (g_tb 682 rfl rfl)
set_option maxRecDepth 100000 in
theorem lm_ScopeGraph_Resolver_50 : Cond.methodLink RX4 50 yX4_keep ∈ gTb ∨ ∃ host, Cond.methodLinkNest RX4 50 yX4_keep host ∈ gNb := Or.inl (g_tb 709 rfl rfl)
set_option maxRecDepth 100000 in
theorem lm_ScopeGraph_Resolver_83 : Cond.methodLink RX4 83 yX2_ownedBy ∈ gTb ∨ ∃ host, Cond.methodLinkNest RX4 83 yX2_ownedBy host ∈ gNb := Or.inl (g_tb 686 rfl rfl)
set_option maxRecDepth 100000 in
theorem lm_ScopeGraph_Resolver_93 : Cond.methodLink RX4 93 yX4_local ∈ gTb ∨ ∃ host, Cond.methodLinkNest RX4 93 yX4_local host ∈ gNb := Or.inl (g_tb 699 rfl rfl)
set_option maxRecDepth 100000 in
theorem lm_ScopeGraph_Resolver_104 : Cond.methodLink RX4 104 yX4_importedBy ∈ gTb ∨ ∃ host, Cond.methodLinkNest RX4 104 yX4_importedBy host ∈ gNb := Or.inl (g_tb 704 rfl rfl)
set_option maxRecDepth 100000 in
theorem lm_ScopeGraph_Tape_19 : Cond.methodLink RX5 19 yX5_add ∈ gTb ∨ ∃ host, Cond.methodLinkNest RX5 19 yX5_add host ∈ gNb := Or.inl (g_tb 800 rfl rfl)
set_option maxRecDepth 100000 in
theorem lm_ScopeGraph_Tokens_18 : Cond.methodLink RX6 18 yX6_behindBlanks ∈ gTb ∨ ∃ host, Cond.methodLinkNest RX6 18 yX6_behindBlanks host ∈ gNb := Or.inl (g_tb 399 rfl rfl)
set_option maxRecDepth 100000 in
theorem lm_ScopeGraph_Tokens_22 : Cond.methodLink RX6 22 yX5_at ∈ gTb ∨ ∃ host, Cond.methodLinkNest RX6 22 yX5_at host ∈ gNb := Or.inl (g_tb 402 rfl rfl)
set_option maxRecDepth 100000 in
theorem lm_ScopeGraph_Tokens_31 : Cond.methodLink RX6 31 yX6_beginsName ∈ gTb ∨ ∃ host, Cond.methodLinkNest RX6 31 yX6_beginsName host ∈ gNb := Or.inl (g_tb 409 rfl rfl)
set_option maxRecDepth 100000 in
theorem lm_ScopeGraph_Tokens_35 : Cond.methodLink RX6 35 yX6_takeName ∈ gTb ∨ ∃ host, Cond.methodLinkNest RX6 35 yX6_takeName host ∈ gNb := Or.inl (g_tb 412 rfl rfl)
set_option maxRecDepth 100000 in
theorem lm_ScopeGraph_Tokens_39 : Cond.methodLink RX6 39 yX6_isDigit ∈ gTb ∨ ∃ host, Cond.methodLinkNest RX6 39 yX6_isDigit host ∈ gNb := Or.inl (g_tb 419 rfl rfl)
set_option maxRecDepth 100000 in
theorem lm_ScopeGraph_Tokens_42 : Cond.methodLink RX6 42 yX6_takeNumber ∈ gTb ∨ ∃ host, Cond.methodLinkNest RX6 42 yX6_takeNumber host ∈ gNb := Or.inl (g_tb 479 rfl rfl)
set_option maxRecDepth 100000 in
theorem lm_ScopeGraph_Tokens_47 : Cond.methodLink RX6 47 yJ0_indexOf_0f7a4 ∈ gTb ∨ ∃ host, Cond.methodLinkNest RX6 47 yJ0_indexOf_0f7a4 host ∈ gNb := Or.inl (g_tb 484 rfl rfl)
set_option maxRecDepth 100000 in
theorem lm_ScopeGraph_Tokens_52 : Cond.methodLink RX6 52 yX6_begin ∈ gTb ∨ ∃ host, Cond.methodLinkNest RX6 52 yX6_begin host ∈ gNb := Or.inl (g_tb 932 rfl rfl)
set_option maxRecDepth 100000 in
theorem lm_ScopeGraph_Tokens_55 : Cond.methodLink RX6 55 yX6_advance ∈ gTb ∨ ∃ host, Cond.methodLinkNest RX6 55 yX6_advance host ∈ gNb := Or.inl (g_tb 933 rfl rfl)
set_option maxRecDepth 100000 in
theorem lm_ScopeGraph_Tokens_68 : Cond.methodLink RX6 68 yX6_isInName ∈ gTb ∨ ∃ host, Cond.methodLinkNest RX6 68 yX6_isInName host ∈ gNb := Or.inl (g_tb 416 rfl rfl)
set_option maxRecDepth 100000 in
theorem lm_ScopeGraph_Tokens_71 : Cond.methodLink RX6 71 yX6_packByte ∈ gTb ∨ ∃ host, Cond.methodLinkNest RX6 71 yX6_packByte host ∈ gNb := Or.inl (g_tb 422 rfl rfl)
set_option maxRecDepth 100000 in
theorem lm_ScopeGraph_Tokens_75 : Cond.methodLink RX6 75 yX6_wordOrName ∈ gTb ∨ ∃ host, Cond.methodLinkNest RX6 75 yX6_wordOrName host ∈ gNb := Or.inl (g_tb 426 rfl rfl)
set_option maxRecDepth 100000 in
theorem lm_ScopeGraph_Tokens_79 : Cond.methodLink RX6 79 yX6_isWord ∈ gTb ∨ ∃ host, Cond.methodLinkNest RX6 79 yX6_isWord host ∈ gNb := Or.inl (g_tb 430 rfl rfl)
set_option maxRecDepth 100000 in
theorem lm_ScopeGraph_Tokens_84 : Cond.methodLink RX6 84 yJ0_charAt_5068e ∈ gTb ∨ ∃ host, Cond.methodLinkNest RX6 84 yJ0_charAt_5068e host ∈ gNb := Or.inl (g_tb 435 rfl rfl)
set_option maxRecDepth 100000 in
theorem lm_ScopeGraph_Tokens_92 : Cond.methodLink RX6 92 yX6_isBlank ∈ gTb ∨ ∃ host, Cond.methodLinkNest RX6 92 yX6_isBlank host ∈ gNb := Or.inl (g_tb 406 rfl rfl)
set_option maxRecDepth 100000 in
theorem lm_ScopeGraphLaw_7 : Cond.methodLink RL 7 yX7_feed ∈ gTb ∨ ∃ host, Cond.methodLinkNest RL 7 yX7_feed host ∈ gNb := Or.inl (g_tb 725 rfl rfl)
set_option maxRecDepth 100000 in
theorem lm_ScopeGraphLaw_15 : Cond.methodLink RL 15 yX7_end ∈ gTb ∨ ∃ host, Cond.methodLinkNest RL 15 yX7_end host ∈ gNb := Or.inl (g_tb 808 rfl rfl)
set_option maxRecDepth 100000 in
theorem lm_ScopeGraphLaw_21 : Cond.methodLink RL 21 yX7_count ∈ gTb ∨ ∃ host, Cond.methodLinkNest RL 21 yX7_count host ∈ gNb := Or.inl (g_tb 832 rfl rfl)
set_option maxRecDepth 100000 in
theorem lm_ScopeGraphLaw_27 : Cond.methodLink RL 27 yX7_scope ∈ gTb ∨ ∃ host, Cond.methodLinkNest RL 27 yX7_scope host ∈ gNb := Or.inl (g_tb 864 rfl rfl)
set_option maxRecDepth 100000 in
theorem lm_ScopeGraphLaw_31 : Cond.methodLink RL 31 yX7_declaration ∈ gTb ∨ ∃ host, Cond.methodLinkNest RL 31 yX7_declaration host ∈ gNb := Or.inl (g_tb 880 rfl rfl)
set_option maxRecDepth 100000 in
theorem lm_ScopeGraphLaw_34 : Cond.methodLink RL 34 yX7_reference ∈ gTb ∨ ∃ host, Cond.methodLinkNest RL 34 yX7_reference host ∈ gNb := Or.inl (g_tb 900 rfl rfl)
set_option maxRecDepth 100000 in
theorem lm_ScopeGraphLaw_37 : Cond.methodLink RL 37 yX7_meant ∈ gTb ∨ ∃ host, Cond.methodLinkNest RL 37 yX7_meant host ∈ gNb := Or.inl (g_tb 908 rfl rfl)
set_option maxRecDepth 100000 in
theorem lm_ScopeGraphLaw_40 : Cond.methodLink RL 40 yX7_friends ∈ gTb ∨ ∃ host, Cond.methodLinkNest RL 40 yX7_friends host ∈ gNb := Or.inl (g_tb 917 rfl rfl)
set_option maxRecDepth 100000 in
theorem lm_ScopeGraphLaw_44 : Cond.methodLink RL 44 yX7_rename ∈ gTb ∨ ∃ host, Cond.methodLinkNest RL 44 yX7_rename host ∈ gNb := Or.inl (g_tb 924 rfl rfl)
set_option maxRecDepth 100000 in
theorem lm_ScopeGraphLaw_47 : Cond.methodLink RL 47 yX7_letter ∈ gTb ∨ ∃ host, Cond.methodLinkNest RL 47 yX7_letter host ∈ gNb := Or.inl (g_tb 975 rfl rfl)
set_option maxRecDepth 100000 in
theorem lm_ScopeGraphLaw_50 : Cond.methodLink RL 50 yX7_init ∈ gTb ∨ ∃ host, Cond.methodLinkNest RL 50 yX7_init host ∈ gNb := Or.inl (g_tb 101 rfl rfl)
set_option maxRecDepth 100000 in
theorem lm_ScopeGraphLaw_53 : Cond.methodLink RL 53 yX8_init ∈ gTb ∨ ∃ host, Cond.methodLinkNest RL 53 yX8_init host ∈ gNb := Or.inl (g_tb 982 rfl rfl)
set_option maxRecDepth 100000 in
theorem lm_ScopeGraphLaw_54 : Cond.methodLink RL 54 yL_feed ∈ gTb ∨ ∃ host, Cond.methodLinkNest RL 54 yL_feed host ∈ gNb := Or.inl (g_tb 721 rfl rfl)
set_option maxRecDepth 100000 in
theorem lm_ScopeGraphLaw_59 : Cond.methodLink RL 59 yX8_feed ∈ gTb ∨ ∃ host, Cond.methodLinkNest RL 59 yX8_feed host ∈ gNb := Or.inl (g_tb 1214 rfl rfl)
set_option maxRecDepth 100000 in
theorem lm_ScopeGraphLaw_60 : Cond.methodLink RL 60 yX8_thrown ∈ gTb ∨ ∃ host, Cond.methodLinkNest RL 60 yX8_thrown host ∈ gNb := Or.inl (g_tb 1210 rfl rfl)
set_option maxRecDepth 100000 in
theorem lm_ScopeGraphLaw_64 : Cond.methodLink RL 64 yL_end ∈ gTb ∨ ∃ host, Cond.methodLinkNest RL 64 yL_end host ∈ gNb := Or.inl (g_tb 804 rfl rfl)
set_option maxRecDepth 100000 in
theorem lm_ScopeGraphLaw_67 : Cond.methodLink RL 67 yX8_end ∈ gTb ∨ ∃ host, Cond.methodLinkNest RL 67 yX8_end host ∈ gNb := Or.inl (g_tb 1226 rfl rfl)
set_option maxRecDepth 100000 in
theorem lm_ScopeGraphLaw_68 : Cond.methodLink RL 68 yX7_read ∈ gTb ∨ ∃ host, Cond.methodLinkNest RL 68 yX7_read host ∈ gNb := Or.inl (g_tb 382 rfl rfl)
set_option maxRecDepth 100000 in
theorem lm_ScopeGraphLaw_71 : Cond.methodLink RL 71 yX8_read ∈ gTb ∨ ∃ host, Cond.methodLinkNest RL 71 yX8_read host ∈ gNb := Or.inl (g_tb 1230 rfl rfl)
set_option maxRecDepth 100000 in
theorem lm_ScopeGraphLaw_72 : Cond.methodLink RL 72 yX7_fault ∈ gTb ∨ ∃ host, Cond.methodLinkNest RL 72 yX7_fault host ∈ gNb := Or.inl (g_tb 717 rfl rfl)
set_option maxRecDepth 100000 in
theorem lm_ScopeGraphLaw_75 : Cond.methodLink RL 75 yX8_fault ∈ gTb ∨ ∃ host, Cond.methodLinkNest RL 75 yX8_fault host ∈ gNb := Or.inl (g_tb 1380 rfl rfl)
set_option maxRecDepth 100000 in
theorem lm_ScopeGraphLaw_76 : Cond.methodLink RL 76 yL_count ∈ gTb ∨ ∃ host, Cond.methodLinkNest RL 76 yL_count host ∈ gNb := Or.inl (g_tb 828 rfl rfl)
set_option maxRecDepth 100000 in
theorem lm_ScopeGraphLaw_79 : Cond.methodLink RL 79 yX8_count ∈ gTb ∨ ∃ host, Cond.methodLinkNest RL 79 yX8_count host ∈ gNb := Or.inl (g_tb 1384 rfl rfl)
set_option maxRecDepth 100000 in
theorem lm_ScopeGraphLaw_80 : Cond.methodLink RL 80 yL_scope ∈ gTb ∨ ∃ host, Cond.methodLinkNest RL 80 yL_scope host ∈ gNb := Or.inl (g_tb 861 rfl rfl)
set_option maxRecDepth 100000 in
theorem lm_ScopeGraphLaw_83 : Cond.methodLink RL 83 yX8_scope ∈ gTb ∨ ∃ host, Cond.methodLinkNest RL 83 yX8_scope host ∈ gNb := Or.inl (g_tb 1391 rfl rfl)
set_option maxRecDepth 100000 in
theorem lm_ScopeGraphLaw_84 : Cond.methodLink RL 84 yL_declaration ∈ gTb ∨ ∃ host, Cond.methodLinkNest RL 84 yL_declaration host ∈ gNb := Or.inl (g_tb 877 rfl rfl)
set_option maxRecDepth 100000 in
theorem lm_ScopeGraphLaw_86 : Cond.methodLink RL 86 yX8_declaration ∈ gTb ∨ ∃ host, Cond.methodLinkNest RL 86 yX8_declaration host ∈ gNb := Or.inl (g_tb 1395 rfl rfl)
set_option maxRecDepth 100000 in
theorem lm_ScopeGraphLaw_87 : Cond.methodLink RL 87 yL_reference ∈ gTb ∨ ∃ host, Cond.methodLinkNest RL 87 yL_reference host ∈ gNb := Or.inl (g_tb 897 rfl rfl)
set_option maxRecDepth 100000 in
theorem lm_ScopeGraphLaw_89 : Cond.methodLink RL 89 yX8_reference ∈ gTb ∨ ∃ host, Cond.methodLinkNest RL 89 yX8_reference host ∈ gNb := Or.inl (g_tb 1403 rfl rfl)
set_option maxRecDepth 100000 in
theorem lm_ScopeGraphLaw_90 : Cond.methodLink RL 90 yL_meant ∈ gTb ∨ ∃ host, Cond.methodLinkNest RL 90 yL_meant host ∈ gNb := Or.inl (g_tb 905 rfl rfl)
set_option maxRecDepth 100000 in
theorem lm_ScopeGraphLaw_92 : Cond.methodLink RL 92 yX8_meant ∈ gTb ∨ ∃ host, Cond.methodLinkNest RL 92 yX8_meant host ∈ gNb := Or.inl (g_tb 1407 rfl rfl)
set_option maxRecDepth 100000 in
theorem lm_ScopeGraphLaw_93 : Cond.methodLink RL 93 yL_friends ∈ gTb ∨ ∃ host, Cond.methodLinkNest RL 93 yL_friends host ∈ gNb := Or.inl (g_tb 914 rfl rfl)
set_option maxRecDepth 100000 in
theorem lm_ScopeGraphLaw_95 : Cond.methodLink RL 95 yX8_friends ∈ gTb ∨ ∃ host, Cond.methodLinkNest RL 95 yX8_friends host ∈ gNb := Or.inl (g_tb 1411 rfl rfl)
set_option maxRecDepth 100000 in
theorem lm_ScopeGraphLaw_96 : Cond.methodLink RL 96 yL_rename ∈ gTb ∨ ∃ host, Cond.methodLinkNest RL 96 yL_rename host ∈ gNb := Or.inl (g_tb 921 rfl rfl)
set_option maxRecDepth 100000 in
theorem lm_ScopeGraphLaw_98 : Cond.methodLink RL 98 yX8_rename ∈ gTb ∨ ∃ host, Cond.methodLinkNest RL 98 yX8_rename host ∈ gNb := Or.inl (g_tb 1415 rfl rfl)
set_option maxRecDepth 100000 in
theorem lm_ScopeGraphLaw_99 : Cond.methodLink RL 99 yL_letter ∈ gTb ∨ ∃ host, Cond.methodLinkNest RL 99 yL_letter host ∈ gNb := Or.inl (g_tb 972 rfl rfl)
set_option maxRecDepth 100000 in
theorem lm_ScopeGraphLaw_101 : Cond.methodLink RL 101 yX8_letter ∈ gTb ∨ ∃ host, Cond.methodLinkNest RL 101 yX8_letter host ∈ gNb := Or.inl (g_tb 1431 rfl rfl)
set_option maxRecDepth 100000 in
theorem lm_ScopeGraphModel_160 : Cond.methodLink RX8 160 yX8_fails ∈ gTb ∨ ∃ host, Cond.methodLinkNest RX8 160 yX8_fails host ∈ gNb := Or.inl (g_tb 1218 rfl rfl)
set_option maxRecDepth 100000 in
theorem lm_ScopeGraphModel_164 : Cond.methodLink RX8 164 yX8_four ∈ gTb ∨ ∃ host, Cond.methodLinkNest RX8 164 yX8_four host ∈ gNb := Or.inl (g_tb 1222 rfl rfl)
set_option maxRecDepth 100000 in
theorem lm_ScopeGraphModel_180 : Cond.methodLink RX8 180 yX8_byteAt ∈ gTb ∨ ∃ host, Cond.methodLinkNest RX8 180 yX8_byteAt host ∈ gNb := Or.inl (g_tb 1246 rfl rfl)
set_option maxRecDepth 100000 in
theorem lm_ScopeGraphModel_190 : Cond.methodLink RX8 190 yX8_isLetter ∈ gTb ∨ ∃ host, Cond.methodLinkNest RX8 190 yX8_isLetter host ∈ gNb := Or.inl (g_tb 1250 rfl rfl)
set_option maxRecDepth 100000 in
theorem lm_ScopeGraphModel_194 : Cond.methodLink RX8 194 yX8_isDigit ∈ gTb ∨ ∃ host, Cond.methodLinkNest RX8 194 yX8_isDigit host ∈ gNb := Or.inl (g_tb 1253 rfl rfl)
set_option maxRecDepth 100000 in
theorem lm_ScopeGraphModel_200 : Cond.methodLink RX8 200 yX8_wordOf ∈ gTb ∨ ∃ host, Cond.methodLinkNest RX8 200 yX8_wordOf host ∈ gNb := Or.inl (g_tb 1256 rfl rfl)
set_option maxRecDepth 100000 in
theorem lm_ScopeGraphModel_204 : Cond.methodLink RX8 204 yX8_blame ∈ gTb ∨ ∃ host, Cond.methodLinkNest RX8 204 yX8_blame host ∈ gNb := Or.inl (g_tb 1260 rfl rfl)
set_option maxRecDepth 100000 in
theorem lm_ScopeGraphModel_229 : Cond.methodLink RX8 229 yX8_next ∈ gTb ∨ ∃ host, Cond.methodLinkNest RX8 229 yX8_next host ∈ gNb := Or.inl (g_tb 1242 rfl rfl)
set_option maxRecDepth 100000 in
theorem lm_ScopeGraphModel_233 : Cond.methodLink RX8 233 yX8_dec ∈ gTb ∨ ∃ host, Cond.methodLinkNest RX8 233 yX8_dec host ∈ gNb := Or.inl (g_tb 1264 rfl rfl)
set_option maxRecDepth 100000 in
theorem lm_ScopeGraphModel_236 : Cond.methodLink RX8 236 yX8_exp ∈ gTb ∨ ∃ host, Cond.methodLinkNest RX8 236 yX8_exp host ∈ gNb := Or.inl (g_tb 1296 rfl rfl)
set_option maxRecDepth 100000 in
theorem lm_ScopeGraphModel_239 : Cond.methodLink RX8 239 yX8_odd ∈ gTb ∨ ∃ host, Cond.methodLinkNest RX8 239 yX8_odd host ∈ gNb := Or.inl (g_tb 1268 rfl rfl)
set_option maxRecDepth 100000 in
theorem lm_ScopeGraphModel_242 : Cond.methodLink RX8 242 yX8_declare ∈ gTb ∨ ∃ host, Cond.methodLinkNest RX8 242 yX8_declare host ∈ gNb := Or.inl (g_tb 1272 rfl rfl)
set_option maxRecDepth 100000 in
theorem lm_ScopeGraphModel_245 : Cond.methodLink RX8 245 yX8_newScope ∈ gTb ∨ ∃ host, Cond.methodLinkNest RX8 245 yX8_newScope host ∈ gNb := Or.inl (g_tb 1276 rfl rfl)
set_option maxRecDepth 100000 in
theorem lm_ScopeGraphModel_249 : Cond.methodLink RX8 249 yX8_is ∈ gTb ∨ ∃ host, Cond.methodLinkNest RX8 249 yX8_is host ∈ gNb := Or.inl (g_tb 1280 rfl rfl)
set_option maxRecDepth 100000 in
theorem lm_ScopeGraphModel_252 : Cond.methodLink RX8 252 yX8_bracket ∈ gTb ∨ ∃ host, Cond.methodLinkNest RX8 252 yX8_bracket host ∈ gNb := Or.inl (g_tb 1284 rfl rfl)
set_option maxRecDepth 100000 in
theorem lm_ScopeGraphModel_255 : Cond.methodLink RX8 255 yX8_open ∈ gTb ∨ ∃ host, Cond.methodLinkNest RX8 255 yX8_open host ∈ gNb := Or.inl (g_tb 1288 rfl rfl)
set_option maxRecDepth 100000 in
theorem lm_ScopeGraphModel_258 : Cond.methodLink RX8 258 yX8_readLong ∈ gTb ∨ ∃ host, Cond.methodLinkNest RX8 258 yX8_readLong host ∈ gNb := Or.inl (g_tb 1292 rfl rfl)
set_option maxRecDepth 100000 in
theorem lm_ScopeGraphModel_268 : Cond.methodLink RX8 268 yX8_fun ∈ gTb ∨ ∃ host, Cond.methodLinkNest RX8 268 yX8_fun host ∈ gNb := Or.inl (g_tb 1300 rfl rfl)
set_option maxRecDepth 100000 in
theorem lm_ScopeGraphModel_271 : Cond.methodLink RX8 271 yX8_binds ∈ gTb ∨ ∃ host, Cond.methodLinkNest RX8 271 yX8_binds host ∈ gNb := Or.inl (g_tb 1308 rfl rfl)
set_option maxRecDepth 100000 in
theorem lm_ScopeGraphModel_274 : Cond.methodLink RX8 274 yX8_ends ∈ gTb ∨ ∃ host, Cond.methodLinkNest RX8 274 yX8_ends host ∈ gNb := Or.inl (g_tb 1316 rfl rfl)
set_option maxRecDepth 100000 in
theorem lm_ScopeGraphModel_277 : Cond.methodLink RX8 277 yX8_body ∈ gTb ∨ ∃ host, Cond.methodLinkNest RX8 277 yX8_body host ∈ gNb := Or.inl (g_tb 1304 rfl rfl)
set_option maxRecDepth 100000 in
theorem lm_ScopeGraphModel_280 : Cond.methodLink RX8 280 yX8_bind ∈ gTb ∨ ∃ host, Cond.methodLinkNest RX8 280 yX8_bind host ∈ gNb := Or.inl (g_tb 1312 rfl rfl)
set_option maxRecDepth 100000 in
theorem lm_ScopeGraphModel_292 : Cond.methodLink RX8 292 yX8_keep ∈ gTb ∨ ∃ host, Cond.methodLinkNest RX8 292 yX8_keep host ∈ gNb := Or.inl (g_tb 1234 rfl rfl)
set_option maxRecDepth 100000 in
theorem lm_ScopeGraphModel_295 : Cond.methodLink RX8 295 yX8_readAll ∈ gTb ∨ ∃ host, Cond.methodLinkNest RX8 295 yX8_readAll host ∈ gNb := Or.inl (g_tb 1238 rfl rfl)
set_option maxRecDepth 100000 in
theorem lm_ScopeGraphModel_298 : Cond.methodLink RX8 298 yX8_giveBack ∈ gTb ∨ ∃ host, Cond.methodLinkNest RX8 298 yX8_giveBack host ∈ gNb := Or.inl (g_tb 1320 rfl rfl)
set_option maxRecDepth 100000 in
theorem lm_ScopeGraphModel_301 : Cond.methodLink RX8 301 yX8_takeText ∈ gTb ∨ ∃ host, Cond.methodLinkNest RX8 301 yX8_takeText host ∈ gNb := Or.inl (g_tb 1324 rfl rfl)
set_option maxRecDepth 100000 in
theorem lm_ScopeGraphModel_307 : Cond.methodLink RX8 307 yX8_nameAll ∈ gTb ∨ ∃ host, Cond.methodLinkNest RX8 307 yX8_nameAll host ∈ gNb := Or.inl (g_tb 1328 rfl rfl)
set_option maxRecDepth 100000 in
theorem lm_ScopeGraphModel_310 : Cond.methodLink RX8 310 yX8_meanAll ∈ gTb ∨ ∃ host, Cond.methodLinkNest RX8 310 yX8_meanAll host ∈ gNb := Or.inl (g_tb 1340 rfl rfl)
set_option maxRecDepth 100000 in
theorem lm_ScopeGraphModel_313 : Cond.methodLink RX8 313 yX8_isSame ∈ gTb ∨ ∃ host, Cond.methodLinkNest RX8 313 yX8_isSame host ∈ gNb := Or.inl (g_tb 1336 rfl rfl)
set_option maxRecDepth 100000 in
theorem lm_ScopeGraphModel_317 : Cond.methodLink RX8 317 yX8_nameAt ∈ gTb ∨ ∃ host, Cond.methodLinkNest RX8 317 yX8_nameAt host ∈ gNb := Or.inl (g_tb 1332 rfl rfl)
set_option maxRecDepth 100000 in
theorem lm_ScopeGraphModel_334 : Cond.methodLink RX8 334 yX8_askMeans ∈ gTb ∨ ∃ host, Cond.methodLinkNest RX8 334 yX8_askMeans host ∈ gNb := Or.inl (g_tb 1348 rfl rfl)
set_option maxRecDepth 100000 in
theorem lm_ScopeGraphModel_338 : Cond.methodLink RX8 338 yX8_visible ∈ gTb ∨ ∃ host, Cond.methodLinkNest RX8 338 yX8_visible host ∈ gNb := Or.inl (g_tb 1356 rfl rfl)
set_option maxRecDepth 100000 in
theorem lm_ScopeGraphModel_341 : Cond.methodLink RX8 341 yX8_imports ∈ gTb ∨ ∃ host, Cond.methodLinkNest RX8 341 yX8_imports host ∈ gNb := Or.inl (g_tb 1371 rfl rfl)
set_option maxRecDepth 100000 in
theorem lm_ScopeGraphModel_344 : Cond.methodLink RX8 344 yX8_local ∈ gTb ∨ ∃ host, Cond.methodLinkNest RX8 344 yX8_local host ∈ gNb := Or.inl (g_tb 1376 rfl rfl)
set_option maxRecDepth 100000 in
theorem lm_ScopeGraphModel_347 : Cond.methodLink RX8 347 yX8_ask ∈ gTb ∨ ∃ host, Cond.methodLinkNest RX8 347 yX8_ask host ∈ gNb := Or.inl (g_tb 1352 rfl rfl)
set_option maxRecDepth 100000 in
theorem lm_ScopeGraphModel_351 : Cond.methodLink RX8 351 yX8_has ∈ gTb ∨ ∃ host, Cond.methodLinkNest RX8 351 yX8_has host ∈ gNb := Or.inl (g_tb 1360 rfl rfl)
set_option maxRecDepth 100000 in
theorem lm_ScopeGraphModel_355 : Cond.methodLink RX8 355 yX8_here ∈ gTb ∨ ∃ host, Cond.methodLinkNest RX8 355 yX8_here host ∈ gNb := Or.inl (g_tb 1363 rfl rfl)
set_option maxRecDepth 100000 in
theorem lm_ScopeGraphModel_359 : Cond.methodLink RX8 359 yX8_says ∈ gTb ∨ ∃ host, Cond.methodLinkNest RX8 359 yX8_says host ∈ gNb := Or.inl (g_tb 1367 rfl rfl)
set_option maxRecDepth 100000 in
theorem lm_ScopeGraphModel_365 : Cond.methodLink RX8 365 yX8_mean ∈ gTb ∨ ∃ host, Cond.methodLinkNest RX8 365 yX8_mean host ∈ gNb := Or.inl (g_tb 1344 rfl rfl)
set_option maxRecDepth 100000 in
theorem lm_ScopeGraphModel_368 : Cond.methodLink RX8 368 yX8_many ∈ gTb ∨ ∃ host, Cond.methodLinkNest RX8 368 yX8_many host ∈ gNb := Or.inl (g_tb 1388 rfl rfl)
set_option maxRecDepth 100000 in
theorem lm_ScopeGraphModel_372 : Cond.methodLink RX8 372 yX8_friendsOf ∈ gTb ∨ ∃ host, Cond.methodLinkNest RX8 372 yX8_friendsOf host ∈ gNb := Or.inl (g_tb 1399 rfl rfl)
set_option maxRecDepth 100000 in
theorem lm_ScopeGraphModel_376 : Cond.methodLink RX8 376 yX8_isName ∈ gTb ∨ ∃ host, Cond.methodLinkNest RX8 376 yX8_isName host ∈ gNb := Or.inl (g_tb 1419 rfl rfl)
set_option maxRecDepth 100000 in
theorem lm_ScopeGraphModel_379 : Cond.methodLink RX8 379 yX8_isTape ∈ gTb ∨ ∃ host, Cond.methodLinkNest RX8 379 yX8_isTape host ∈ gNb := Or.inl (g_tb 1423 rfl rfl)
set_option maxRecDepth 100000 in
theorem lm_ScopeGraphModel_382 : Cond.methodLink RX8 382 yX8_build ∈ gTb ∨ ∃ host, Cond.methodLinkNest RX8 382 yX8_build host ∈ gNb := Or.inl (g_tb 1427 rfl rfl)
set_option maxRecDepth 100000 in
theorem lm_java_lang_String_492 : Cond.methodLink "java/lang/String" 492 yJ0_isLatin1_aae02 ∈ gTb ∨ ∃ host, Cond.methodLinkNest "java/lang/String" 492 yJ0_isLatin1_aae02 host ∈ gNb := Or.inl (g_tb 439 rfl rfl)
set_option maxRecDepth 100000 in
theorem lm_java_lang_String_495 : Cond.methodLink "java/lang/String" 495 yJ1_charAt_3b067 ∈ gTb ∨ ∃ host, Cond.methodLinkNest "java/lang/String" 495 yJ1_charAt_3b067 host ∈ gNb := Or.inl (g_tb 445 rfl rfl)
set_option maxRecDepth 100000 in
theorem lm_java_lang_String_633 : Cond.methodLink "java/lang/String" 633 yJ0_indexOf_7cf53 ∈ gTb ∨ ∃ host, Cond.methodLinkNest "java/lang/String" 633 yJ0_indexOf_7cf53 host ∈ gNb := Or.inl (g_tb 488 rfl rfl)
set_option maxRecDepth 100000 in
theorem lm_java_lang_String_637 : Cond.methodLink "java/lang/String" 637 yJ1_indexOf_4cfef ∈ gTb ∨ ∃ host, Cond.methodLinkNest "java/lang/String" 637 yJ1_indexOf_4cfef host ∈ gNb := Or.inl (g_tb 500 rfl rfl)
set_option maxRecDepth 100000 in
theorem lm_java_lang_StringLatin1_88 : Cond.methodLink "java/lang/StringLatin1" 88 yJ1_canEncode_9a6ad ∈ gTb ∨ ∃ host, Cond.methodLinkNest "java/lang/StringLatin1" 88 yJ1_canEncode_9a6ad host ∈ gNb := Or.inl (g_tb 503 rfl rfl)
set_option maxRecDepth 100000 in
theorem lm_java_lang_StringLatin1_95 : Cond.methodLink "java/lang/StringLatin1" 95 yJ1_indexOfChar_4cfef ∈ gTb ∨ ∃ host, Cond.methodLinkNest "java/lang/StringLatin1" 95 yJ1_indexOfChar_4cfef host ∈ gNb := Or.inl (g_tb 512 rfl rfl)
theorem lm_ScopeGraph_9 : Cond.methodLink RX7 9 yX5_init ∈ gTb ∨ ∃ host, Cond.methodLinkNest RX7 9 yX5_init host ∈ gNb := Or.inr ⟨"ScopeGraph", g_nb 109 (by decide +kernel) rfl⟩
theorem lm_ScopeGraph_31 : Cond.methodLink RX7 31 yX1_init ∈ gTb ∨ ∃ host, Cond.methodLinkNest RX7 31 yX1_init host ∈ gNb := Or.inr ⟨"ScopeGraph", g_nb 238 (by decide +kernel) rfl⟩
theorem lm_ScopeGraph_Marks_45 : Cond.methodLink RX0 45 yX7_nameByte ∈ gTb ∨ ∃ host, Cond.methodLinkNest RX0 45 yX7_nameByte host ∈ gNb := Or.inr ⟨"ScopeGraph", g_nb 952 (by decide +kernel) rfl⟩
theorem lm_ScopeGraph_Program_75 : Cond.methodLink RX2 75 yX7_lowest ∈ gTb ∨ ∃ host, Cond.methodLinkNest RX2 75 yX7_lowest host ∈ gNb := Or.inr ⟨"ScopeGraph", g_nb 690 (by decide +kernel) rfl⟩
theorem lm_ScopeGraph_Reader_11 : Cond.methodLink RX3 11 yX6_init ∈ gTb ∨ ∃ host, Cond.methodLinkNest RX3 11 yX6_init host ∈ gNb := Or.inr ⟨"ScopeGraph", g_nb 270 (by decide +kernel) rfl⟩
theorem lm_ScopeGraph_Resolver_100 : Cond.methodLink RX4 100 yX7_lowest ∈ gTb ∨ ∃ host, Cond.methodLinkNest RX4 100 yX7_lowest host ∈ gNb := Or.inr ⟨"ScopeGraph", g_nb 703 (by decide +kernel) rfl⟩
theorem lm_ScopeGraph_Tape_23 : Cond.methodLink RX5 23 yX7_nameByte ∈ gTb ∨ ∃ host, Cond.methodLinkNest RX5 23 yX7_nameByte host ∈ gNb := Or.inr ⟨"ScopeGraph", g_nb 969 (by decide +kernel) rfl⟩
theorem lm_ScopeGraph_Tokens_88 : Cond.methodLink RX6 88 yX7_nameByte ∈ gTb ∨ ∃ host, Cond.methodLinkNest RX6 88 yX7_nameByte host ∈ gNb := Or.inr ⟨"ScopeGraph", g_nb 475 (by decide +kernel) rfl⟩
