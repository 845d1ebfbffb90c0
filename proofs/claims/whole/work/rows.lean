section
-- ===== PART A: goes FIRST, ahead of the names: the tables' words, and 'selects' of the private methods out of them =====
/-- a private method of a class that the tables say can be made, by its rows of tables_1 -/
def lw_okq (q : MethodName × Nat) : Prop := (q.1.cls ≠ "java/lang/invoke/MethodHandle" ∧ q.1.cls ≠ "java/lang/invoke/VarHandle") ∧ Cond.instantiable q.1.cls q.2 ∈ tables_1 ∧ Cond.privateMethod q.1 ∈ tables_1 ∧ Cond.instanceMethod q.1 ∈ tables_1
theorem lw_p0 : lw_okq (⟨"ScopeGraph$Tokens", "takeName", "(LScopeGraph$Tape;)V"⟩, 5) := ⟨⟨by decide +kernel, by decide +kernel⟩, List.mem_of_getElem? (i := 193) (by decide +kernel), List.mem_of_getElem? (i := 337) (by decide +kernel), List.mem_of_getElem? (i := 338) (by decide +kernel)⟩
theorem lw_p1 : lw_okq (⟨"ScopeGraph$Tokens", "packByte", "(II)V"⟩, 5) := ⟨⟨by decide +kernel, by decide +kernel⟩, List.mem_of_getElem? (i := 193) (by decide +kernel), List.mem_of_getElem? (i := 347) (by decide +kernel), List.mem_of_getElem? (i := 348) (by decide +kernel)⟩
theorem lw_p2 : lw_okq (⟨"ScopeGraph$Tokens", "wordOrName", "()I"⟩, 5) := ⟨⟨by decide +kernel, by decide +kernel⟩, List.mem_of_getElem? (i := 193) (by decide +kernel), List.mem_of_getElem? (i := 351) (by decide +kernel), List.mem_of_getElem? (i := 352) (by decide +kernel)⟩
theorem lw_p3 : lw_okq (⟨"ScopeGraph$Tokens", "isWord", "(I)Z"⟩, 5) := ⟨⟨by decide +kernel, by decide +kernel⟩, List.mem_of_getElem? (i := 193) (by decide +kernel), List.mem_of_getElem? (i := 355) (by decide +kernel), List.mem_of_getElem? (i := 356) (by decide +kernel)⟩
theorem lw_p4 : lw_okq (⟨"ScopeGraph$Tokens", "takeNumber", "(LScopeGraph$Tape;)V"⟩, 5) := ⟨⟨by decide +kernel, by decide +kernel⟩, List.mem_of_getElem? (i := 193) (by decide +kernel), List.mem_of_getElem? (i := 404) (by decide +kernel), List.mem_of_getElem? (i := 405) (by decide +kernel)⟩
theorem lw_p5 : lw_okq (⟨"ScopeGraph$Reader", "take", "(I)I"⟩, 10) := ⟨⟨by decide +kernel, by decide +kernel⟩, List.mem_of_getElem? (i := 187) (by decide +kernel), List.mem_of_getElem? (i := 475) (by decide +kernel), List.mem_of_getElem? (i := 476) (by decide +kernel)⟩
theorem lw_p6 : lw_okq (⟨"ScopeGraph$Reader", "takeDec", "(I)I"⟩, 10) := ⟨⟨by decide +kernel, by decide +kernel⟩, List.mem_of_getElem? (i := 187) (by decide +kernel), List.mem_of_getElem? (i := 479) (by decide +kernel), List.mem_of_getElem? (i := 480) (by decide +kernel)⟩
theorem lw_p7 : lw_okq (⟨"ScopeGraph$Reader", "turnTo", "(I)I"⟩, 10) := ⟨⟨by decide +kernel, by decide +kernel⟩, List.mem_of_getElem? (i := 187) (by decide +kernel), List.mem_of_getElem? (i := 483) (by decide +kernel), List.mem_of_getElem? (i := 484) (by decide +kernel)⟩
theorem lw_p8 : lw_okq (⟨"ScopeGraph$Reader", "topFrame", "()I"⟩, 10) := ⟨⟨by decide +kernel, by decide +kernel⟩, List.mem_of_getElem? (i := 187) (by decide +kernel), List.mem_of_getElem? (i := 487) (by decide +kernel), List.mem_of_getElem? (i := 488) (by decide +kernel)⟩
theorem lw_p9 : lw_okq (⟨"ScopeGraph$Reader", "closeTo", "(I)I"⟩, 10) := ⟨⟨by decide +kernel, by decide +kernel⟩, List.mem_of_getElem? (i := 187) (by decide +kernel), List.mem_of_getElem? (i := 491) (by decide +kernel), List.mem_of_getElem? (i := 492) (by decide +kernel)⟩
theorem lw_p10 : lw_okq (⟨"ScopeGraph$Reader", "popTo", "(I)I"⟩, 10) := ⟨⟨by decide +kernel, by decide +kernel⟩, List.mem_of_getElem? (i := 187) (by decide +kernel), List.mem_of_getElem? (i := 495) (by decide +kernel), List.mem_of_getElem? (i := 496) (by decide +kernel)⟩
theorem lw_p11 : lw_okq (⟨"ScopeGraph$Reader", "topOuter", "()I"⟩, 10) := ⟨⟨by decide +kernel, by decide +kernel⟩, List.mem_of_getElem? (i := 187) (by decide +kernel), List.mem_of_getElem? (i := 499) (by decide +kernel), List.mem_of_getElem? (i := 500) (by decide +kernel)⟩
theorem lw_p12 : lw_okq (⟨"ScopeGraph$Reader", "openTo", "(I)I"⟩, 10) := ⟨⟨by decide +kernel, by decide +kernel⟩, List.mem_of_getElem? (i := 187) (by decide +kernel), List.mem_of_getElem? (i := 503) (by decide +kernel), List.mem_of_getElem? (i := 504) (by decide +kernel)⟩
theorem lw_p13 : lw_okq (⟨"ScopeGraph$Reader", "takeAtom", "(I)I"⟩, 10) := ⟨⟨by decide +kernel, by decide +kernel⟩, List.mem_of_getElem? (i := 187) (by decide +kernel), List.mem_of_getElem? (i := 507) (by decide +kernel), List.mem_of_getElem? (i := 508) (by decide +kernel)⟩
theorem lw_p14 : lw_okq (⟨"ScopeGraph$Reader", "takeFirstOfLong", "()I"⟩, 10) := ⟨⟨by decide +kernel, by decide +kernel⟩, List.mem_of_getElem? (i := 187) (by decide +kernel), List.mem_of_getElem? (i := 511) (by decide +kernel), List.mem_of_getElem? (i := 512) (by decide +kernel)⟩
theorem lw_p15 : lw_okq (⟨"ScopeGraph$Reader", "push", "(II)V"⟩, 10) := ⟨⟨by decide +kernel, by decide +kernel⟩, List.mem_of_getElem? (i := 187) (by decide +kernel), List.mem_of_getElem? (i := 523) (by decide +kernel), List.mem_of_getElem? (i := 524) (by decide +kernel)⟩
def lw_privs_1 : List (MethodName × Nat) := [(⟨"ScopeGraph$Tokens", "takeName", "(LScopeGraph$Tape;)V"⟩, 5), (⟨"ScopeGraph$Tokens", "packByte", "(II)V"⟩, 5), (⟨"ScopeGraph$Tokens", "wordOrName", "()I"⟩, 5), (⟨"ScopeGraph$Tokens", "isWord", "(I)Z"⟩, 5), (⟨"ScopeGraph$Tokens", "takeNumber", "(LScopeGraph$Tape;)V"⟩, 5), (⟨"ScopeGraph$Reader", "take", "(I)I"⟩, 10), (⟨"ScopeGraph$Reader", "takeDec", "(I)I"⟩, 10), (⟨"ScopeGraph$Reader", "turnTo", "(I)I"⟩, 10), (⟨"ScopeGraph$Reader", "topFrame", "()I"⟩, 10), (⟨"ScopeGraph$Reader", "closeTo", "(I)I"⟩, 10), (⟨"ScopeGraph$Reader", "popTo", "(I)I"⟩, 10), (⟨"ScopeGraph$Reader", "topOuter", "()I"⟩, 10), (⟨"ScopeGraph$Reader", "openTo", "(I)I"⟩, 10), (⟨"ScopeGraph$Reader", "takeAtom", "(I)I"⟩, 10), (⟨"ScopeGraph$Reader", "takeFirstOfLong", "()I"⟩, 10), (⟨"ScopeGraph$Reader", "push", "(II)V"⟩, 10)]
theorem lw_r1 : ∀ q ∈ lw_privs_1, lw_okq q := List.forall_mem_cons.mpr ⟨lw_p0, List.forall_mem_cons.mpr ⟨lw_p1, List.forall_mem_cons.mpr ⟨lw_p2, List.forall_mem_cons.mpr ⟨lw_p3, List.forall_mem_cons.mpr ⟨lw_p4, List.forall_mem_cons.mpr ⟨lw_p5, List.forall_mem_cons.mpr ⟨lw_p6, List.forall_mem_cons.mpr ⟨lw_p7, List.forall_mem_cons.mpr ⟨lw_p8, List.forall_mem_cons.mpr ⟨lw_p9, List.forall_mem_cons.mpr ⟨lw_p10, List.forall_mem_cons.mpr ⟨lw_p11, List.forall_mem_cons.mpr ⟨lw_p12, List.forall_mem_cons.mpr ⟨lw_p13, List.forall_mem_cons.mpr ⟨lw_p14, List.forall_mem_cons.mpr ⟨lw_p15, fun _ h => absurd h List.not_mem_nil⟩⟩⟩⟩⟩⟩⟩⟩⟩⟩⟩⟩⟩⟩⟩⟩
theorem lw_p16 : lw_okq (⟨"ScopeGraph$Reader", "takeScopeWord", "(II)I"⟩, 10) := ⟨⟨by decide +kernel, by decide +kernel⟩, List.mem_of_getElem? (i := 187) (by decide +kernel), List.mem_of_getElem? (i := 527) (by decide +kernel), List.mem_of_getElem? (i := 528) (by decide +kernel)⟩
theorem lw_p17 : lw_okq (⟨"ScopeGraph$Reader", "takeBehindAtom", "(I)I"⟩, 10) := ⟨⟨by decide +kernel, by decide +kernel⟩, List.mem_of_getElem? (i := 187) (by decide +kernel), List.mem_of_getElem? (i := 532) (by decide +kernel), List.mem_of_getElem? (i := 533) (by decide +kernel)⟩
theorem lw_p18 : lw_okq (⟨"ScopeGraph$Reader", "takeImportEnd", "()I"⟩, 10) := ⟨⟨by decide +kernel, by decide +kernel⟩, List.mem_of_getElem? (i := 187) (by decide +kernel), List.mem_of_getElem? (i := 536) (by decide +kernel), List.mem_of_getElem? (i := 537) (by decide +kernel)⟩
theorem lw_p19 : lw_okq (⟨"ScopeGraph$Reader", "takeIn", "()I"⟩, 10) := ⟨⟨by decide +kernel, by decide +kernel⟩, List.mem_of_getElem? (i := 187) (by decide +kernel), List.mem_of_getElem? (i := 547) (by decide +kernel), List.mem_of_getElem? (i := 548) (by decide +kernel)⟩
theorem lw_p20 : lw_okq (⟨"ScopeGraph$Reader", "topInner", "()I"⟩, 10) := ⟨⟨by decide +kernel, by decide +kernel⟩, List.mem_of_getElem? (i := 187) (by decide +kernel), List.mem_of_getElem? (i := 551) (by decide +kernel), List.mem_of_getElem? (i := 552) (by decide +kernel)⟩
theorem lw_p21 : lw_okq (⟨"ScopeGraph$Reader", "setTop", "(II)V"⟩, 10) := ⟨⟨by decide +kernel, by decide +kernel⟩, List.mem_of_getElem? (i := 187) (by decide +kernel), List.mem_of_getElem? (i := 555) (by decide +kernel), List.mem_of_getElem? (i := 556) (by decide +kernel)⟩
theorem lw_p22 : lw_okq (⟨"ScopeGraph$Reader", "takeName", "()I"⟩, 10) := ⟨⟨by decide +kernel, by decide +kernel⟩, List.mem_of_getElem? (i := 187) (by decide +kernel), List.mem_of_getElem? (i := 559) (by decide +kernel), List.mem_of_getElem? (i := 560) (by decide +kernel)⟩
theorem lw_p23 : lw_okq (⟨"ScopeGraph$Reader", "takeModuleName", "()I"⟩, 10) := ⟨⟨by decide +kernel, by decide +kernel⟩, List.mem_of_getElem? (i := 187) (by decide +kernel), List.mem_of_getElem? (i := 563) (by decide +kernel), List.mem_of_getElem? (i := 564) (by decide +kernel)⟩
theorem lw_p24 : lw_okq (⟨"ScopeGraph$Reader", "takeImportName", "()I"⟩, 10) := ⟨⟨by decide +kernel, by decide +kernel⟩, List.mem_of_getElem? (i := 187) (by decide +kernel), List.mem_of_getElem? (i := 571) (by decide +kernel), List.mem_of_getElem? (i := 572) (by decide +kernel)⟩
theorem lw_p25 : lw_okq (⟨"ScopeGraph$Reader", "declareIn", "(II)I"⟩, 10) := ⟨⟨by decide +kernel, by decide +kernel⟩, List.mem_of_getElem? (i := 187) (by decide +kernel), List.mem_of_getElem? (i := 575) (by decide +kernel), List.mem_of_getElem? (i := 576) (by decide +kernel)⟩
theorem lw_p26 : lw_okq (⟨"ScopeGraph$Reader", "takeBindName", "()I"⟩, 10) := ⟨⟨by decide +kernel, by decide +kernel⟩, List.mem_of_getElem? (i := 187) (by decide +kernel), List.mem_of_getElem? (i := 579) (by decide +kernel), List.mem_of_getElem? (i := 580) (by decide +kernel)⟩
theorem lw_p27 : lw_okq (⟨"ScopeGraph$Reader", "takeNextOfLong", "()I"⟩, 10) := ⟨⟨by decide +kernel, by decide +kernel⟩, List.mem_of_getElem? (i := 187) (by decide +kernel), List.mem_of_getElem? (i := 583) (by decide +kernel), List.mem_of_getElem? (i := 584) (by decide +kernel)⟩
theorem lw_p28 : lw_okq (⟨"ScopeGraph", "swapTapes", "()V"⟩, 9) := ⟨⟨by decide +kernel, by decide +kernel⟩, List.mem_of_getElem? (i := 24) (by decide +kernel), List.mem_of_getElem? (i := 587) (by decide +kernel), List.mem_of_getElem? (i := 588) (by decide +kernel)⟩
theorem lw_p29 : lw_okq (⟨"ScopeGraph$Resolver", "followStatements", "(I)V"⟩, 5) := ⟨⟨by decide +kernel, by decide +kernel⟩, List.mem_of_getElem? (i := 257) (by decide +kernel), List.mem_of_getElem? (i := 603) (by decide +kernel), List.mem_of_getElem? (i := 604) (by decide +kernel)⟩
theorem lw_p30 : lw_okq (⟨"ScopeGraph$Resolver", "means", "(IJI)J"⟩, 5) := ⟨⟨by decide +kernel, by decide +kernel⟩, List.mem_of_getElem? (i := 257) (by decide +kernel), List.mem_of_getElem? (i := 607) (by decide +kernel), List.mem_of_getElem? (i := 608) (by decide +kernel)⟩
theorem lw_p31 : lw_okq (⟨"ScopeGraph$Resolver", "local", "(JJI)J"⟩, 5) := ⟨⟨by decide +kernel, by decide +kernel⟩, List.mem_of_getElem? (i := 257) (by decide +kernel), List.mem_of_getElem? (i := 624) (by decide +kernel), List.mem_of_getElem? (i := 625) (by decide +kernel)⟩
def lw_privs_2 : List (MethodName × Nat) := [(⟨"ScopeGraph$Reader", "takeScopeWord", "(II)I"⟩, 10), (⟨"ScopeGraph$Reader", "takeBehindAtom", "(I)I"⟩, 10), (⟨"ScopeGraph$Reader", "takeImportEnd", "()I"⟩, 10), (⟨"ScopeGraph$Reader", "takeIn", "()I"⟩, 10), (⟨"ScopeGraph$Reader", "topInner", "()I"⟩, 10), (⟨"ScopeGraph$Reader", "setTop", "(II)V"⟩, 10), (⟨"ScopeGraph$Reader", "takeName", "()I"⟩, 10), (⟨"ScopeGraph$Reader", "takeModuleName", "()I"⟩, 10), (⟨"ScopeGraph$Reader", "takeImportName", "()I"⟩, 10), (⟨"ScopeGraph$Reader", "declareIn", "(II)I"⟩, 10), (⟨"ScopeGraph$Reader", "takeBindName", "()I"⟩, 10), (⟨"ScopeGraph$Reader", "takeNextOfLong", "()I"⟩, 10), (⟨"ScopeGraph", "swapTapes", "()V"⟩, 9), (⟨"ScopeGraph$Resolver", "followStatements", "(I)V"⟩, 5), (⟨"ScopeGraph$Resolver", "means", "(IJI)J"⟩, 5), (⟨"ScopeGraph$Resolver", "local", "(JJI)J"⟩, 5)]
theorem lw_r2 : ∀ q ∈ lw_privs_2, lw_okq q := List.forall_mem_cons.mpr ⟨lw_p16, List.forall_mem_cons.mpr ⟨lw_p17, List.forall_mem_cons.mpr ⟨lw_p18, List.forall_mem_cons.mpr ⟨lw_p19, List.forall_mem_cons.mpr ⟨lw_p20, List.forall_mem_cons.mpr ⟨lw_p21, List.forall_mem_cons.mpr ⟨lw_p22, List.forall_mem_cons.mpr ⟨lw_p23, List.forall_mem_cons.mpr ⟨lw_p24, List.forall_mem_cons.mpr ⟨lw_p25, List.forall_mem_cons.mpr ⟨lw_p26, List.forall_mem_cons.mpr ⟨lw_p27, List.forall_mem_cons.mpr ⟨lw_p28, List.forall_mem_cons.mpr ⟨lw_p29, List.forall_mem_cons.mpr ⟨lw_p30, List.forall_mem_cons.mpr ⟨lw_p31, fun _ h => absurd h List.not_mem_nil⟩⟩⟩⟩⟩⟩⟩⟩⟩⟩⟩⟩⟩⟩⟩⟩
theorem lw_p32 : lw_okq (⟨"ScopeGraph$Resolver", "importedBy", "(II)J"⟩, 5) := ⟨⟨by decide +kernel, by decide +kernel⟩, List.mem_of_getElem? (i := 257) (by decide +kernel), List.mem_of_getElem? (i := 629) (by decide +kernel), List.mem_of_getElem? (i := 630) (by decide +kernel)⟩
theorem lw_p33 : lw_okq (⟨"ScopeGraph$Resolver", "keep", "(IJ)V"⟩, 5) := ⟨⟨by decide +kernel, by decide +kernel⟩, List.mem_of_getElem? (i := 257) (by decide +kernel), List.mem_of_getElem? (i := 634) (by decide +kernel), List.mem_of_getElem? (i := 635) (by decide +kernel)⟩
theorem lw_p34 : lw_okq (⟨"java/lang/Throwable", "fillInStackTrace", "(I)Ljava/lang/Throwable;"⟩, 6) := ⟨⟨by decide +kernel, by decide +kernel⟩, List.mem_of_getElem? (i := 692) (by decide +kernel), List.mem_of_getElem? (i := 690) (by decide +kernel), List.mem_of_getElem? (i := 691) (by decide +kernel)⟩
theorem lw_p35 : lw_okq (⟨"ScopeGraph", "writeNewText", "(JILScopeGraph$Tokens;)V"⟩, 9) := ⟨⟨by decide +kernel, by decide +kernel⟩, List.mem_of_getElem? (i := 24) (by decide +kernel), List.mem_of_getElem? (i := 878) (by decide +kernel), List.mem_of_getElem? (i := 879) (by decide +kernel)⟩
theorem lw_p36 : lw_okq (⟨"ScopeGraphModel", "fails", "(Z)Z"⟩, 74) := ⟨⟨by decide +kernel, by decide +kernel⟩, List.mem_of_getElem? (i := 905) (by decide +kernel), List.mem_of_getElem? (i := 1143) (by decide +kernel), List.mem_of_getElem? (i := 1144) (by decide +kernel)⟩
theorem lw_p37 : lw_okq (⟨"ScopeGraphModel", "four", "(I)V"⟩, 74) := ⟨⟨by decide +kernel, by decide +kernel⟩, List.mem_of_getElem? (i := 905) (by decide +kernel), List.mem_of_getElem? (i := 1147) (by decide +kernel), List.mem_of_getElem? (i := 1148) (by decide +kernel)⟩
theorem lw_p38 : lw_okq (⟨"ScopeGraphModel", "keep", "()V"⟩, 74) := ⟨⟨by decide +kernel, by decide +kernel⟩, List.mem_of_getElem? (i := 905) (by decide +kernel), List.mem_of_getElem? (i := 1159) (by decide +kernel), List.mem_of_getElem? (i := 1160) (by decide +kernel)⟩
theorem lw_p39 : lw_okq (⟨"ScopeGraphModel", "readAll", "()Z"⟩, 74) := ⟨⟨by decide +kernel, by decide +kernel⟩, List.mem_of_getElem? (i := 905) (by decide +kernel), List.mem_of_getElem? (i := 1163) (by decide +kernel), List.mem_of_getElem? (i := 1164) (by decide +kernel)⟩
theorem lw_p40 : lw_okq (⟨"ScopeGraphModel", "next", "()Z"⟩, 74) := ⟨⟨by decide +kernel, by decide +kernel⟩, List.mem_of_getElem? (i := 905) (by decide +kernel), List.mem_of_getElem? (i := 1167) (by decide +kernel), List.mem_of_getElem? (i := 1168) (by decide +kernel)⟩
theorem lw_p41 : lw_okq (⟨"ScopeGraphModel", "byteAt", "(I)I"⟩, 74) := ⟨⟨by decide +kernel, by decide +kernel⟩, List.mem_of_getElem? (i := 905) (by decide +kernel), List.mem_of_getElem? (i := 1171) (by decide +kernel), List.mem_of_getElem? (i := 1172) (by decide +kernel)⟩
theorem lw_p42 : lw_okq (⟨"ScopeGraphModel", "wordOf", "([III)I"⟩, 74) := ⟨⟨by decide +kernel, by decide +kernel⟩, List.mem_of_getElem? (i := 905) (by decide +kernel), List.mem_of_getElem? (i := 1181) (by decide +kernel), List.mem_of_getElem? (i := 1182) (by decide +kernel)⟩
theorem lw_p43 : lw_okq (⟨"ScopeGraphModel", "blame", "(II)Z"⟩, 74) := ⟨⟨by decide +kernel, by decide +kernel⟩, List.mem_of_getElem? (i := 905) (by decide +kernel), List.mem_of_getElem? (i := 1185) (by decide +kernel), List.mem_of_getElem? (i := 1186) (by decide +kernel)⟩
theorem lw_p44 : lw_okq (⟨"ScopeGraphModel", "dec", "()Z"⟩, 74) := ⟨⟨by decide +kernel, by decide +kernel⟩, List.mem_of_getElem? (i := 905) (by decide +kernel), List.mem_of_getElem? (i := 1189) (by decide +kernel), List.mem_of_getElem? (i := 1190) (by decide +kernel)⟩
theorem lw_p45 : lw_okq (⟨"ScopeGraphModel", "odd", "()Z"⟩, 74) := ⟨⟨by decide +kernel, by decide +kernel⟩, List.mem_of_getElem? (i := 905) (by decide +kernel), List.mem_of_getElem? (i := 1193) (by decide +kernel), List.mem_of_getElem? (i := 1194) (by decide +kernel)⟩
theorem lw_p46 : lw_okq (⟨"ScopeGraphModel", "declare", "(II)Z"⟩, 74) := ⟨⟨by decide +kernel, by decide +kernel⟩, List.mem_of_getElem? (i := 905) (by decide +kernel), List.mem_of_getElem? (i := 1197) (by decide +kernel), List.mem_of_getElem? (i := 1198) (by decide +kernel)⟩
theorem lw_p47 : lw_okq (⟨"ScopeGraphModel", "newScope", "(III)Z"⟩, 74) := ⟨⟨by decide +kernel, by decide +kernel⟩, List.mem_of_getElem? (i := 905) (by decide +kernel), List.mem_of_getElem? (i := 1201) (by decide +kernel), List.mem_of_getElem? (i := 1202) (by decide +kernel)⟩
def lw_privs_3 : List (MethodName × Nat) := [(⟨"ScopeGraph$Resolver", "importedBy", "(II)J"⟩, 5), (⟨"ScopeGraph$Resolver", "keep", "(IJ)V"⟩, 5), (⟨"java/lang/Throwable", "fillInStackTrace", "(I)Ljava/lang/Throwable;"⟩, 6), (⟨"ScopeGraph", "writeNewText", "(JILScopeGraph$Tokens;)V"⟩, 9), (⟨"ScopeGraphModel", "fails", "(Z)Z"⟩, 74), (⟨"ScopeGraphModel", "four", "(I)V"⟩, 74), (⟨"ScopeGraphModel", "keep", "()V"⟩, 74), (⟨"ScopeGraphModel", "readAll", "()Z"⟩, 74), (⟨"ScopeGraphModel", "next", "()Z"⟩, 74), (⟨"ScopeGraphModel", "byteAt", "(I)I"⟩, 74), (⟨"ScopeGraphModel", "wordOf", "([III)I"⟩, 74), (⟨"ScopeGraphModel", "blame", "(II)Z"⟩, 74), (⟨"ScopeGraphModel", "dec", "()Z"⟩, 74), (⟨"ScopeGraphModel", "odd", "()Z"⟩, 74), (⟨"ScopeGraphModel", "declare", "(II)Z"⟩, 74), (⟨"ScopeGraphModel", "newScope", "(III)Z"⟩, 74)]
theorem lw_r3 : ∀ q ∈ lw_privs_3, lw_okq q := List.forall_mem_cons.mpr ⟨lw_p32, List.forall_mem_cons.mpr ⟨lw_p33, List.forall_mem_cons.mpr ⟨lw_p34, List.forall_mem_cons.mpr ⟨lw_p35, List.forall_mem_cons.mpr ⟨lw_p36, List.forall_mem_cons.mpr ⟨lw_p37, List.forall_mem_cons.mpr ⟨lw_p38, List.forall_mem_cons.mpr ⟨lw_p39, List.forall_mem_cons.mpr ⟨lw_p40, List.forall_mem_cons.mpr ⟨lw_p41, List.forall_mem_cons.mpr ⟨lw_p42, List.forall_mem_cons.mpr ⟨lw_p43, List.forall_mem_cons.mpr ⟨lw_p44, List.forall_mem_cons.mpr ⟨lw_p45, List.forall_mem_cons.mpr ⟨lw_p46, List.forall_mem_cons.mpr ⟨lw_p47, fun _ h => absurd h List.not_mem_nil⟩⟩⟩⟩⟩⟩⟩⟩⟩⟩⟩⟩⟩⟩⟩⟩
theorem lw_p48 : lw_okq (⟨"ScopeGraphModel", "is", "(I)Z"⟩, 74) := ⟨⟨by decide +kernel, by decide +kernel⟩, List.mem_of_getElem? (i := 905) (by decide +kernel), List.mem_of_getElem? (i := 1205) (by decide +kernel), List.mem_of_getElem? (i := 1206) (by decide +kernel)⟩
theorem lw_p49 : lw_okq (⟨"ScopeGraphModel", "bracket", "()Z"⟩, 74) := ⟨⟨by decide +kernel, by decide +kernel⟩, List.mem_of_getElem? (i := 905) (by decide +kernel), List.mem_of_getElem? (i := 1209) (by decide +kernel), List.mem_of_getElem? (i := 1210) (by decide +kernel)⟩
theorem lw_p50 : lw_okq (⟨"ScopeGraphModel", "open", "(I)V"⟩, 74) := ⟨⟨by decide +kernel, by decide +kernel⟩, List.mem_of_getElem? (i := 905) (by decide +kernel), List.mem_of_getElem? (i := 1213) (by decide +kernel), List.mem_of_getElem? (i := 1214) (by decide +kernel)⟩
theorem lw_p51 : lw_okq (⟨"ScopeGraphModel", "readLong", "()Z"⟩, 74) := ⟨⟨by decide +kernel, by decide +kernel⟩, List.mem_of_getElem? (i := 905) (by decide +kernel), List.mem_of_getElem? (i := 1217) (by decide +kernel), List.mem_of_getElem? (i := 1218) (by decide +kernel)⟩
theorem lw_p52 : lw_okq (⟨"ScopeGraphModel", "exp", "()Z"⟩, 74) := ⟨⟨by decide +kernel, by decide +kernel⟩, List.mem_of_getElem? (i := 905) (by decide +kernel), List.mem_of_getElem? (i := 1221) (by decide +kernel), List.mem_of_getElem? (i := 1222) (by decide +kernel)⟩
theorem lw_p53 : lw_okq (⟨"ScopeGraphModel", "fun", "()Z"⟩, 74) := ⟨⟨by decide +kernel, by decide +kernel⟩, List.mem_of_getElem? (i := 905) (by decide +kernel), List.mem_of_getElem? (i := 1225) (by decide +kernel), List.mem_of_getElem? (i := 1226) (by decide +kernel)⟩
theorem lw_p54 : lw_okq (⟨"ScopeGraphModel", "body", "(I)Z"⟩, 74) := ⟨⟨by decide +kernel, by decide +kernel⟩, List.mem_of_getElem? (i := 905) (by decide +kernel), List.mem_of_getElem? (i := 1229) (by decide +kernel), List.mem_of_getElem? (i := 1230) (by decide +kernel)⟩
theorem lw_p55 : lw_okq (⟨"ScopeGraphModel", "binds", "()Z"⟩, 74) := ⟨⟨by decide +kernel, by decide +kernel⟩, List.mem_of_getElem? (i := 905) (by decide +kernel), List.mem_of_getElem? (i := 1233) (by decide +kernel), List.mem_of_getElem? (i := 1234) (by decide +kernel)⟩
theorem lw_p56 : lw_okq (⟨"ScopeGraphModel", "bind", "()Z"⟩, 74) := ⟨⟨by decide +kernel, by decide +kernel⟩, List.mem_of_getElem? (i := 905) (by decide +kernel), List.mem_of_getElem? (i := 1237) (by decide +kernel), List.mem_of_getElem? (i := 1238) (by decide +kernel)⟩
theorem lw_p57 : lw_okq (⟨"ScopeGraphModel", "ends", "()Z"⟩, 74) := ⟨⟨by decide +kernel, by decide +kernel⟩, List.mem_of_getElem? (i := 905) (by decide +kernel), List.mem_of_getElem? (i := 1241) (by decide +kernel), List.mem_of_getElem? (i := 1242) (by decide +kernel)⟩
theorem lw_p58 : lw_okq (⟨"ScopeGraphModel", "giveBack", "()V"⟩, 74) := ⟨⟨by decide +kernel, by decide +kernel⟩, List.mem_of_getElem? (i := 905) (by decide +kernel), List.mem_of_getElem? (i := 1245) (by decide +kernel), List.mem_of_getElem? (i := 1246) (by decide +kernel)⟩
theorem lw_p59 : lw_okq (⟨"ScopeGraphModel", "takeText", "()V"⟩, 74) := ⟨⟨by decide +kernel, by decide +kernel⟩, List.mem_of_getElem? (i := 905) (by decide +kernel), List.mem_of_getElem? (i := 1249) (by decide +kernel), List.mem_of_getElem? (i := 1250) (by decide +kernel)⟩
theorem lw_p60 : lw_okq (⟨"ScopeGraphModel", "nameAll", "()V"⟩, 74) := ⟨⟨by decide +kernel, by decide +kernel⟩, List.mem_of_getElem? (i := 905) (by decide +kernel), List.mem_of_getElem? (i := 1253) (by decide +kernel), List.mem_of_getElem? (i := 1254) (by decide +kernel)⟩
theorem lw_p61 : lw_okq (⟨"ScopeGraphModel", "nameAt", "(II)I"⟩, 74) := ⟨⟨by decide +kernel, by decide +kernel⟩, List.mem_of_getElem? (i := 905) (by decide +kernel), List.mem_of_getElem? (i := 1257) (by decide +kernel), List.mem_of_getElem? (i := 1258) (by decide +kernel)⟩
theorem lw_p62 : lw_okq (⟨"ScopeGraphModel", "isSame", "(IIII)Z"⟩, 74) := ⟨⟨by decide +kernel, by decide +kernel⟩, List.mem_of_getElem? (i := 905) (by decide +kernel), List.mem_of_getElem? (i := 1261) (by decide +kernel), List.mem_of_getElem? (i := 1262) (by decide +kernel)⟩
theorem lw_p63 : lw_okq (⟨"ScopeGraphModel", "meanAll", "()V"⟩, 74) := ⟨⟨by decide +kernel, by decide +kernel⟩, List.mem_of_getElem? (i := 905) (by decide +kernel), List.mem_of_getElem? (i := 1265) (by decide +kernel), List.mem_of_getElem? (i := 1266) (by decide +kernel)⟩
def lw_privs_4 : List (MethodName × Nat) := [(⟨"ScopeGraphModel", "is", "(I)Z"⟩, 74), (⟨"ScopeGraphModel", "bracket", "()Z"⟩, 74), (⟨"ScopeGraphModel", "open", "(I)V"⟩, 74), (⟨"ScopeGraphModel", "readLong", "()Z"⟩, 74), (⟨"ScopeGraphModel", "exp", "()Z"⟩, 74), (⟨"ScopeGraphModel", "fun", "()Z"⟩, 74), (⟨"ScopeGraphModel", "body", "(I)Z"⟩, 74), (⟨"ScopeGraphModel", "binds", "()Z"⟩, 74), (⟨"ScopeGraphModel", "bind", "()Z"⟩, 74), (⟨"ScopeGraphModel", "ends", "()Z"⟩, 74), (⟨"ScopeGraphModel", "giveBack", "()V"⟩, 74), (⟨"ScopeGraphModel", "takeText", "()V"⟩, 74), (⟨"ScopeGraphModel", "nameAll", "()V"⟩, 74), (⟨"ScopeGraphModel", "nameAt", "(II)I"⟩, 74), (⟨"ScopeGraphModel", "isSame", "(IIII)Z"⟩, 74), (⟨"ScopeGraphModel", "meanAll", "()V"⟩, 74)]
theorem lw_r4 : ∀ q ∈ lw_privs_4, lw_okq q := List.forall_mem_cons.mpr ⟨lw_p48, List.forall_mem_cons.mpr ⟨lw_p49, List.forall_mem_cons.mpr ⟨lw_p50, List.forall_mem_cons.mpr ⟨lw_p51, List.forall_mem_cons.mpr ⟨lw_p52, List.forall_mem_cons.mpr ⟨lw_p53, List.forall_mem_cons.mpr ⟨lw_p54, List.forall_mem_cons.mpr ⟨lw_p55, List.forall_mem_cons.mpr ⟨lw_p56, List.forall_mem_cons.mpr ⟨lw_p57, List.forall_mem_cons.mpr ⟨lw_p58, List.forall_mem_cons.mpr ⟨lw_p59, List.forall_mem_cons.mpr ⟨lw_p60, List.forall_mem_cons.mpr ⟨lw_p61, List.forall_mem_cons.mpr ⟨lw_p62, List.forall_mem_cons.mpr ⟨lw_p63, fun _ h => absurd h List.not_mem_nil⟩⟩⟩⟩⟩⟩⟩⟩⟩⟩⟩⟩⟩⟩⟩⟩
theorem lw_p64 : lw_okq (⟨"ScopeGraphModel", "mean", "(I)V"⟩, 74) := ⟨⟨by decide +kernel, by decide +kernel⟩, List.mem_of_getElem? (i := 905) (by decide +kernel), List.mem_of_getElem? (i := 1269) (by decide +kernel), List.mem_of_getElem? (i := 1270) (by decide +kernel)⟩
theorem lw_p65 : lw_okq (⟨"ScopeGraphModel", "askMeans", "(IJJ)V"⟩, 74) := ⟨⟨by decide +kernel, by decide +kernel⟩, List.mem_of_getElem? (i := 905) (by decide +kernel), List.mem_of_getElem? (i := 1273) (by decide +kernel), List.mem_of_getElem? (i := 1274) (by decide +kernel)⟩
theorem lw_p66 : lw_okq (⟨"ScopeGraphModel", "ask", "(IIIJJJ)V"⟩, 74) := ⟨⟨by decide +kernel, by decide +kernel⟩, List.mem_of_getElem? (i := 905) (by decide +kernel), List.mem_of_getElem? (i := 1277) (by decide +kernel), List.mem_of_getElem? (i := 1278) (by decide +kernel)⟩
theorem lw_p67 : lw_okq (⟨"ScopeGraphModel", "visible", "(I)V"⟩, 74) := ⟨⟨by decide +kernel, by decide +kernel⟩, List.mem_of_getElem? (i := 905) (by decide +kernel), List.mem_of_getElem? (i := 1281) (by decide +kernel), List.mem_of_getElem? (i := 1282) (by decide +kernel)⟩
theorem lw_p68 : lw_okq (⟨"ScopeGraphModel", "here", "(II)J"⟩, 74) := ⟨⟨by decide +kernel, by decide +kernel⟩, List.mem_of_getElem? (i := 905) (by decide +kernel), List.mem_of_getElem? (i := 1288) (by decide +kernel), List.mem_of_getElem? (i := 1289) (by decide +kernel)⟩
theorem lw_p69 : lw_okq (⟨"ScopeGraphModel", "says", "(J)V"⟩, 74) := ⟨⟨by decide +kernel, by decide +kernel⟩, List.mem_of_getElem? (i := 905) (by decide +kernel), List.mem_of_getElem? (i := 1292) (by decide +kernel), List.mem_of_getElem? (i := 1293) (by decide +kernel)⟩
theorem lw_p70 : lw_okq (⟨"ScopeGraphModel", "imports", "(I)V"⟩, 74) := ⟨⟨by decide +kernel, by decide +kernel⟩, List.mem_of_getElem? (i := 905) (by decide +kernel), List.mem_of_getElem? (i := 1296) (by decide +kernel), List.mem_of_getElem? (i := 1297) (by decide +kernel)⟩
theorem lw_p71 : lw_okq (⟨"ScopeGraphModel", "local", "(I)V"⟩, 74) := ⟨⟨by decide +kernel, by decide +kernel⟩, List.mem_of_getElem? (i := 905) (by decide +kernel), List.mem_of_getElem? (i := 1301) (by decide +kernel), List.mem_of_getElem? (i := 1302) (by decide +kernel)⟩
theorem lw_p72 : lw_okq (⟨"ScopeGraphModel", "friendsOf", "(I)J"⟩, 74) := ⟨⟨by decide +kernel, by decide +kernel⟩, List.mem_of_getElem? (i := 905) (by decide +kernel), List.mem_of_getElem? (i := 1324) (by decide +kernel), List.mem_of_getElem? (i := 1325) (by decide +kernel)⟩
theorem lw_p73 : lw_okq (⟨"ScopeGraphModel", "isName", "()Z"⟩, 74) := ⟨⟨by decide +kernel, by decide +kernel⟩, List.mem_of_getElem? (i := 905) (by decide +kernel), List.mem_of_getElem? (i := 1344) (by decide +kernel), List.mem_of_getElem? (i := 1345) (by decide +kernel)⟩
theorem lw_p74 : lw_okq (⟨"ScopeGraphModel", "isTape", "(II)Z"⟩, 74) := ⟨⟨by decide +kernel, by decide +kernel⟩, List.mem_of_getElem? (i := 905) (by decide +kernel), List.mem_of_getElem? (i := 1348) (by decide +kernel), List.mem_of_getElem? (i := 1349) (by decide +kernel)⟩
theorem lw_p75 : lw_okq (⟨"ScopeGraphModel", "build", "(J)Z"⟩, 74) := ⟨⟨by decide +kernel, by decide +kernel⟩, List.mem_of_getElem? (i := 905) (by decide +kernel), List.mem_of_getElem? (i := 1352) (by decide +kernel), List.mem_of_getElem? (i := 1353) (by decide +kernel)⟩
def lw_privs_5 : List (MethodName × Nat) := [(⟨"ScopeGraphModel", "mean", "(I)V"⟩, 74), (⟨"ScopeGraphModel", "askMeans", "(IJJ)V"⟩, 74), (⟨"ScopeGraphModel", "ask", "(IIIJJJ)V"⟩, 74), (⟨"ScopeGraphModel", "visible", "(I)V"⟩, 74), (⟨"ScopeGraphModel", "here", "(II)J"⟩, 74), (⟨"ScopeGraphModel", "says", "(J)V"⟩, 74), (⟨"ScopeGraphModel", "imports", "(I)V"⟩, 74), (⟨"ScopeGraphModel", "local", "(I)V"⟩, 74), (⟨"ScopeGraphModel", "friendsOf", "(I)J"⟩, 74), (⟨"ScopeGraphModel", "isName", "()Z"⟩, 74), (⟨"ScopeGraphModel", "isTape", "(II)Z"⟩, 74), (⟨"ScopeGraphModel", "build", "(J)Z"⟩, 74)]
theorem lw_r5 : ∀ q ∈ lw_privs_5, lw_okq q := List.forall_mem_cons.mpr ⟨lw_p64, List.forall_mem_cons.mpr ⟨lw_p65, List.forall_mem_cons.mpr ⟨lw_p66, List.forall_mem_cons.mpr ⟨lw_p67, List.forall_mem_cons.mpr ⟨lw_p68, List.forall_mem_cons.mpr ⟨lw_p69, List.forall_mem_cons.mpr ⟨lw_p70, List.forall_mem_cons.mpr ⟨lw_p71, List.forall_mem_cons.mpr ⟨lw_p72, List.forall_mem_cons.mpr ⟨lw_p73, List.forall_mem_cons.mpr ⟨lw_p74, List.forall_mem_cons.mpr ⟨lw_p75, fun _ h => absurd h List.not_mem_nil⟩⟩⟩⟩⟩⟩⟩⟩⟩⟩⟩⟩
def lw_privs : List (MethodName × Nat) := lw_privs_1 ++ (lw_privs_2 ++ (lw_privs_3 ++ (lw_privs_4 ++ (lw_privs_5))))
def lw_tbl : List Cond := k2_sels lw_privs ++ tables_1
theorem lw_privs_ok : ∀ q ∈ lw_privs, lw_okq q := by
  show ∀ q ∈ lw_privs_1 ++ (lw_privs_2 ++ (lw_privs_3 ++ (lw_privs_4 ++ (lw_privs_5)))), lw_okq q
  exact List.forall_mem_append.mpr ⟨lw_r1, List.forall_mem_append.mpr ⟨lw_r2, List.forall_mem_append.mpr ⟨lw_r3, List.forall_mem_append.mpr ⟨lw_r4, lw_r5⟩⟩⟩⟩
-- ===== end of PART A; then your names; then what follows =====
end
section
def RX0 : String := "ScopeGraph$Marks"
def TX0 : u_T := fun k => match k with
  | 0 => ("ScopeGraph$Marks", "scopes", "[I", true)
  | 1 => ("ScopeGraph$Marks", "places", "[I", true)
  | 2 => ("ScopeGraph$Marks", "highs", "[J", true)
  | 3 => ("ScopeGraph$Marks", "lows", "[J", true)
  | _ => ("ScopeGraph$Marks", "size", "I", false)
def tyX0 : Nat → FieldType := fun k => match k with
  | 0 => .array .int
  | 1 => .array .int
  | 2 => .array .long
  | 3 => .array .long
  | _ => .int
abbrev wsX00 : List Cond := u_ws RX0 TX0 5
theorem nmX0 : ∀ a, a < 5 → ∀ b, b < 5 → a ≠ b → (TX0 a).2.1 ≠ (TX0 b).2.1 := by decide +kernel
theorem tyX0_ok : ∀ k, k < 5 → parseFieldDescriptor (TX0 k).2.2.1 = some (tyX0 k) := by decide +kernel
abbrev cX0_init : ByteArray := prog_2_method_1_code
def yX0_init : MethodName := ⟨RX0, "<init>", "(I)V"⟩
abbrev cX0_has : ByteArray := prog_2_method_2_code
def yX0_has : MethodName := ⟨RX0, "has", "(I)Z"⟩
abbrev cX0_add : ByteArray := prog_2_method_3_code
def yX0_add : MethodName := ⟨RX0, "add", "(ILScopeGraph$Tokens;)I"⟩
abbrev cX0_standsAt : ByteArray := prog_2_method_4_code
def yX0_standsAt : MethodName := ⟨RX0, "standsAt", "(II)Z"⟩
abbrev cX0_move : ByteArray := prog_2_method_5_code
def yX0_move : MethodName := ⟨RX0, "move", "(IIZLScopeGraph$Tokens;)V"⟩
abbrev cX0_lengthOf : ByteArray := prog_2_method_6_code
def yX0_lengthOf : MethodName := ⟨RX0, "lengthOf", "(I)I"⟩
abbrev cX0_isNamed : ByteArray := prog_2_method_7_code
def yX0_isNamed : MethodName := ⟨RX0, "isNamed", "(IJJ)Z"⟩
abbrev cX0_named : ByteArray := prog_2_method_8_code
def yX0_named : MethodName := ⟨RX0, "named", "(JJ)J"⟩
def RX1 : String := "ScopeGraph$Meaning"
def TX1 : u_T := fun k => match k with
  | 0 => ("ScopeGraph$Meaning", "namesakes", "[J", true)
  | 1 => ("ScopeGraph$Meaning", "meanings", "[J", true)
  | 2 => ("ScopeGraph$Meaning", "ups", "[I", true)
  | _ => ("ScopeGraph$Meaning", "nears", "[I", true)
def tyX1 : Nat → FieldType := fun k => match k with
  | 0 => .array .long
  | 1 => .array .long
  | 2 => .array .int
  | _ => .array .int
abbrev wsX10 : List Cond := u_ws RX1 TX1 4
theorem nmX1 : ∀ a, a < 4 → ∀ b, b < 4 → a ≠ b → (TX1 a).2.1 ≠ (TX1 b).2.1 := by decide +kernel
theorem tyX1_ok : ∀ k, k < 4 → parseFieldDescriptor (TX1 k).2.2.1 = some (tyX1 k) := by decide +kernel
abbrev cX1_init : ByteArray := prog_3_method_1_code
def yX1_init : MethodName := ⟨RX1, "<init>", "()V"⟩
abbrev cX1_compareNames : ByteArray := prog_3_method_2_code
def yX1_compareNames : MethodName := ⟨RX1, "compareNames", "(LScopeGraph$Program;)V"⟩
abbrev cX1_supposeName : ByteArray := prog_3_method_3_code
def yX1_supposeName : MethodName := ⟨RX1, "supposeName", "(LScopeGraph$Program;LScopeGraph$Meaning;JLScopeGraph$Tokens;)V"⟩
abbrev cX1_agreesWith : ByteArray := prog_3_method_4_code
def yX1_agreesWith : MethodName := ⟨RX1, "agreesWith", "(LScopeGraph$Meaning;I)Z"⟩
abbrev cX1_howManyMean : ByteArray := prog_3_method_5_code
def yX1_howManyMean : MethodName := ⟨RX1, "howManyMean", "(III)I"⟩
abbrev cX1_usersOf : ByteArray := prog_3_method_6_code
def yX1_usersOf : MethodName := ⟨RX1, "usersOf", "(JI)I"⟩
abbrev cX1_friendsOf : ByteArray := prog_3_method_7_code
def yX1_friendsOf : MethodName := ⟨RX1, "friendsOf", "(II)J"⟩
def RX2 : String := "ScopeGraph$Program"
def TX2 : u_T := fun k => match k with
  | 0 => ("ScopeGraph$Program", "declarations", "LScopeGraph$Marks;", true)
  | 1 => ("ScopeGraph$Program", "references", "LScopeGraph$Marks;", true)
  | 2 => ("ScopeGraph$Program", "parents", "[I", true)
  | 3 => ("ScopeGraph$Program", "kinds", "[I", true)
  | 4 => ("ScopeGraph$Program", "declared", "[J", true)
  | 5 => ("ScopeGraph$Program", "imported", "[I", true)
  | 6 => ("ScopeGraph$Program", "owned", "[I", true)
  | 7 => ("ScopeGraph$Program", "importers", "[I", true)
  | 8 => ("ScopeGraph$Program", "statementOf", "[I", true)
  | 9 => ("ScopeGraph$Program", "firsts", "[I", true)
  | 10 => ("ScopeGraph$Program", "lasts", "[I", true)
  | 11 => ("ScopeGraph$Program", "scopes", "I", false)
  | _ => ("ScopeGraph$Program", "statements", "I", false)
def tyX2 : Nat → FieldType := fun k => match k with
  | 0 => .object "ScopeGraph$Marks"
  | 1 => .object "ScopeGraph$Marks"
  | 2 => .array .int
  | 3 => .array .int
  | 4 => .array .long
  | 5 => .array .int
  | 6 => .array .int
  | 7 => .array .int
  | 8 => .array .int
  | 9 => .array .int
  | 10 => .array .int
  | 11 => .int
  | _ => .int
abbrev wsX20 : List Cond := u_ws RX2 TX2 13
theorem nmX2 : ∀ a, a < 13 → ∀ b, b < 13 → a ≠ b → (TX2 a).2.1 ≠ (TX2 b).2.1 := by decide +kernel
theorem tyX2_ok : ∀ k, k < 13 → parseFieldDescriptor (TX2 k).2.2.1 = some (tyX2 k) := by decide +kernel
abbrev cX2_init : ByteArray := prog_4_method_1_code
def yX2_init : MethodName := ⟨RX2, "<init>", "()V"⟩
abbrev cX2_empty : ByteArray := prog_4_method_2_code
def yX2_empty : MethodName := ⟨RX2, "empty", "()V"⟩
abbrev cX2_makeScope : ByteArray := prog_4_method_3_code
def yX2_makeScope : MethodName := ⟨RX2, "makeScope", "(II)I"⟩
abbrev cX2_declare : ByteArray := prog_4_method_4_code
def yX2_declare : MethodName := ⟨RX2, "declare", "(ILScopeGraph$Tokens;)I"⟩
abbrev cX2_refer : ByteArray := prog_4_method_5_code
def yX2_refer : MethodName := ⟨RX2, "refer", "(ILScopeGraph$Tokens;)I"⟩
abbrev cX2_importFrom : ByteArray := prog_4_method_6_code
def yX2_importFrom : MethodName := ⟨RX2, "importFrom", "(II)V"⟩
abbrev cX2_importsInAll : ByteArray := prog_4_method_7_code
def yX2_importsInAll : MethodName := ⟨RX2, "importsInAll", "()I"⟩
abbrev cX2_importsOf : ByteArray := prog_4_method_8_code
def yX2_importsOf : MethodName := ⟨RX2, "importsOf", "(I)I"⟩
abbrev cX2_referencesIn : ByteArray := prog_4_method_9_code
def yX2_referencesIn : MethodName := ⟨RX2, "referencesIn", "(I)I"⟩
abbrev cX2_ownedBy : ByteArray := prog_4_method_10_code
def yX2_ownedBy : MethodName := ⟨RX2, "ownedBy", "(J)J"⟩
def RX3 : String := "ScopeGraph$Reader"
def TX3 : u_T := fun k => match k with
  | 0 => ("ScopeGraph$Reader", "tokens", "LScopeGraph$Tokens;", true)
  | 1 => ("ScopeGraph$Reader", "frames", "[I", true)
  | 2 => ("ScopeGraph$Reader", "outers", "[I", true)
  | 3 => ("ScopeGraph$Reader", "inners", "[I", true)
  | 4 => ("ScopeGraph$Reader", "program", "LScopeGraph$Program;", false)
  | 5 => ("ScopeGraph$Reader", "depth", "I", false)
  | 6 => ("ScopeGraph$Reader", "open", "I", false)
  | 7 => ("ScopeGraph$Reader", "here", "I", false)
  | 8 => ("ScopeGraph$Reader", "state", "I", false)
  | _ => ("ScopeGraph$Reader", "longStart", "I", false)
def tyX3 : Nat → FieldType := fun k => match k with
  | 0 => .object "ScopeGraph$Tokens"
  | 1 => .array .int
  | 2 => .array .int
  | 3 => .array .int
  | 4 => .object "ScopeGraph$Program"
  | 5 => .int
  | 6 => .int
  | 7 => .int
  | 8 => .int
  | _ => .int
abbrev wsX30 : List Cond := u_ws RX3 TX3 10
theorem nmX3 : ∀ a, a < 10 → ∀ b, b < 10 → a ≠ b → (TX3 a).2.1 ≠ (TX3 b).2.1 := by decide +kernel
theorem tyX3_ok : ∀ k, k < 10 → parseFieldDescriptor (TX3 k).2.2.1 = some (tyX3 k) := by decide +kernel
abbrev cX3_init : ByteArray := prog_5_method_1_code
def yX3_init : MethodName := ⟨RX3, "<init>", "(LScopeGraph$Program;)V"⟩
abbrev cX3_parse : ByteArray := prog_5_method_2_code
def yX3_parse : MethodName := ⟨RX3, "parse", "(LScopeGraph$Tape;LScopeGraph$Program;)I"⟩
abbrev cX3_place : ByteArray := prog_5_method_3_code
def yX3_place : MethodName := ⟨RX3, "place", "()I"⟩
abbrev cX3_take : ByteArray := prog_5_method_4_code
def yX3_take : MethodName := ⟨RX3, "take", "(I)I"⟩
abbrev cX3_takeDec : ByteArray := prog_5_method_5_code
def yX3_takeDec : MethodName := ⟨RX3, "takeDec", "(I)I"⟩
abbrev cX3_takeAtom : ByteArray := prog_5_method_6_code
def yX3_takeAtom : MethodName := ⟨RX3, "takeAtom", "(I)I"⟩
abbrev cX3_takeScopeWord : ByteArray := prog_5_method_7_code
def yX3_takeScopeWord : MethodName := ⟨RX3, "takeScopeWord", "(II)I"⟩
abbrev cX3_takeBehindAtom : ByteArray := prog_5_method_8_code
def yX3_takeBehindAtom : MethodName := ⟨RX3, "takeBehindAtom", "(I)I"⟩
abbrev cX3_hasBinds : ByteArray := prog_5_method_9_code
def yX3_hasBinds : MethodName := ⟨RX3, "hasBinds", "(I)Z"⟩
abbrev cX3_takeName : ByteArray := prog_5_method_10_code
def yX3_takeName : MethodName := ⟨RX3, "takeName", "()I"⟩
abbrev cX3_takeModuleName : ByteArray := prog_5_method_11_code
def yX3_takeModuleName : MethodName := ⟨RX3, "takeModuleName", "()I"⟩
abbrev cX3_takeImportName : ByteArray := prog_5_method_12_code
def yX3_takeImportName : MethodName := ⟨RX3, "takeImportName", "()I"⟩
abbrev cX3_takeImportEnd : ByteArray := prog_5_method_13_code
def yX3_takeImportEnd : MethodName := ⟨RX3, "takeImportEnd", "()I"⟩
abbrev cX3_takeBindName : ByteArray := prog_5_method_14_code
def yX3_takeBindName : MethodName := ⟨RX3, "takeBindName", "()I"⟩
abbrev cX3_takeIn : ByteArray := prog_5_method_15_code
def yX3_takeIn : MethodName := ⟨RX3, "takeIn", "()I"⟩
abbrev cX3_takeFirstOfLong : ByteArray := prog_5_method_16_code
def yX3_takeFirstOfLong : MethodName := ⟨RX3, "takeFirstOfLong", "()I"⟩
abbrev cX3_takeNextOfLong : ByteArray := prog_5_method_17_code
def yX3_takeNextOfLong : MethodName := ⟨RX3, "takeNextOfLong", "()I"⟩
abbrev cX3_declareIn : ByteArray := prog_5_method_18_code
def yX3_declareIn : MethodName := ⟨RX3, "declareIn", "(II)I"⟩
abbrev cX3_turnTo : ByteArray := prog_5_method_19_code
def yX3_turnTo : MethodName := ⟨RX3, "turnTo", "(I)I"⟩
abbrev cX3_openTo : ByteArray := prog_5_method_20_code
def yX3_openTo : MethodName := ⟨RX3, "openTo", "(I)I"⟩
abbrev cX3_closeTo : ByteArray := prog_5_method_21_code
def yX3_closeTo : MethodName := ⟨RX3, "closeTo", "(I)I"⟩
abbrev cX3_popTo : ByteArray := prog_5_method_22_code
def yX3_popTo : MethodName := ⟨RX3, "popTo", "(I)I"⟩
abbrev cX3_push : ByteArray := prog_5_method_23_code
def yX3_push : MethodName := ⟨RX3, "push", "(II)V"⟩
abbrev cX3_setTop : ByteArray := prog_5_method_24_code
def yX3_setTop : MethodName := ⟨RX3, "setTop", "(II)V"⟩
abbrev cX3_topFrame : ByteArray := prog_5_method_25_code
def yX3_topFrame : MethodName := ⟨RX3, "topFrame", "()I"⟩
abbrev cX3_topOuter : ByteArray := prog_5_method_26_code
def yX3_topOuter : MethodName := ⟨RX3, "topOuter", "()I"⟩
abbrev cX3_topInner : ByteArray := prog_5_method_27_code
def yX3_topInner : MethodName := ⟨RX3, "topInner", "()I"⟩
def RX4 : String := "ScopeGraph$Resolver"
def TX4 : u_T := fun k => match k with
  | 0 => ("ScopeGraph$Resolver", "brought", "[J", true)
  | 1 => ("ScopeGraph$Resolver", "program", "LScopeGraph$Program;", false)
  | 2 => ("ScopeGraph$Resolver", "meaning", "LScopeGraph$Meaning;", false)
  | 3 => ("ScopeGraph$Resolver", "levelFound", "I", false)
  | _ => ("ScopeGraph$Resolver", "scopeFound", "I", false)
def tyX4 : Nat → FieldType := fun k => match k with
  | 0 => .array .long
  | 1 => .object "ScopeGraph$Program"
  | 2 => .object "ScopeGraph$Meaning"
  | 3 => .int
  | _ => .int
abbrev wsX40 : List Cond := u_ws RX4 TX4 5
theorem nmX4 : ∀ a, a < 5 → ∀ b, b < 5 → a ≠ b → (TX4 a).2.1 ≠ (TX4 b).2.1 := by decide +kernel
theorem tyX4_ok : ∀ k, k < 5 → parseFieldDescriptor (TX4 k).2.2.1 = some (tyX4 k) := by decide +kernel
abbrev cX4_init : ByteArray := prog_6_method_1_code
def yX4_init : MethodName := ⟨RX4, "<init>", "(LScopeGraph$Program;LScopeGraph$Meaning;)V"⟩
abbrev cX4_resolve : ByteArray := prog_6_method_2_code
def yX4_resolve : MethodName := ⟨RX4, "resolve", "(LScopeGraph$Program;LScopeGraph$Meaning;)V"⟩
abbrev cX4_keep : ByteArray := prog_6_method_3_code
def yX4_keep : MethodName := ⟨RX4, "keep", "(IJ)V"⟩
abbrev cX4_followStatements : ByteArray := prog_6_method_4_code
def yX4_followStatements : MethodName := ⟨RX4, "followStatements", "(I)V"⟩
abbrev cX4_means : ByteArray := prog_6_method_5_code
def yX4_means : MethodName := ⟨RX4, "means", "(IJI)J"⟩
abbrev cX4_local : ByteArray := prog_6_method_6_code
def yX4_local : MethodName := ⟨RX4, "local", "(JJI)J"⟩
abbrev cX4_importedBy : ByteArray := prog_6_method_7_code
def yX4_importedBy : MethodName := ⟨RX4, "importedBy", "(II)J"⟩
def RX5 : String := "ScopeGraph$Tape"
def TX5 : u_T := fun k => match k with
  | 0 => ("ScopeGraph$Tape", "bytes", "[B", true)
  | _ => ("ScopeGraph$Tape", "size", "I", false)
def tyX5 : Nat → FieldType := fun k => match k with
  | 0 => .array .byte
  | _ => .int
abbrev wsX50 : List Cond := u_ws RX5 TX5 2
theorem nmX5 : ∀ a, a < 2 → ∀ b, b < 2 → a ≠ b → (TX5 a).2.1 ≠ (TX5 b).2.1 := by decide +kernel
theorem tyX5_ok : ∀ k, k < 2 → parseFieldDescriptor (TX5 k).2.2.1 = some (tyX5 k) := by decide +kernel
abbrev cX5_init : ByteArray := prog_7_method_1_code
def yX5_init : MethodName := ⟨RX5, "<init>", "()V"⟩
abbrev cX5_at : ByteArray := prog_7_method_2_code
def yX5_at : MethodName := ⟨RX5, "at", "(I)I"⟩
abbrev cX5_add : ByteArray := prog_7_method_3_code
def yX5_add : MethodName := ⟨RX5, "add", "(I)V"⟩
abbrev cX5_addFour : ByteArray := prog_7_method_4_code
def yX5_addFour : MethodName := ⟨RX5, "addFour", "(I)V"⟩
abbrev cX5_addName : ByteArray := prog_7_method_5_code
def yX5_addName : MethodName := ⟨RX5, "addName", "(JJ)V"⟩
def RX6 : String := "ScopeGraph$Tokens"
def TX6 : u_T := fun k => match k with
  | 0 => ("ScopeGraph$Tokens", "kind", "I", false)
  | 1 => ("ScopeGraph$Tokens", "start", "I", false)
  | 2 => ("ScopeGraph$Tokens", "length", "I", false)
  | 3 => ("ScopeGraph$Tokens", "high", "J", false)
  | _ => ("ScopeGraph$Tokens", "low", "J", false)
def tyX6 : Nat → FieldType := fun k => match k with
  | 0 => .int
  | 1 => .int
  | 2 => .int
  | 3 => .long
  | _ => .long
abbrev wsX60 : List Cond := u_ws RX6 TX6 5
theorem nmX6 : ∀ a, a < 5 → ∀ b, b < 5 → a ≠ b → (TX6 a).2.1 ≠ (TX6 b).2.1 := by decide +kernel
theorem tyX6_ok : ∀ k, k < 5 → parseFieldDescriptor (TX6 k).2.2.1 = some (tyX6 k) := by decide +kernel
abbrev cX6_init : ByteArray := prog_8_method_1_code
def yX6_init : MethodName := ⟨RX6, "<init>", "()V"⟩
abbrev cX6_begin : ByteArray := prog_8_method_2_code
def yX6_begin : MethodName := ⟨RX6, "begin", "()V"⟩
abbrev cX6_advance : ByteArray := prog_8_method_3_code
def yX6_advance : MethodName := ⟨RX6, "advance", "(LScopeGraph$Tape;)V"⟩
abbrev cX6_areJustOneName : ByteArray := prog_8_method_4_code
def yX6_areJustOneName : MethodName := ⟨RX6, "areJustOneName", "(LScopeGraph$Tape;)Z"⟩
abbrev cX6_takeName : ByteArray := prog_8_method_5_code
def yX6_takeName : MethodName := ⟨RX6, "takeName", "(LScopeGraph$Tape;)V"⟩
abbrev cX6_packByte : ByteArray := prog_8_method_6_code
def yX6_packByte : MethodName := ⟨RX6, "packByte", "(II)V"⟩
abbrev cX6_takeNumber : ByteArray := prog_8_method_7_code
def yX6_takeNumber : MethodName := ⟨RX6, "takeNumber", "(LScopeGraph$Tape;)V"⟩
abbrev cX6_wordOrName : ByteArray := prog_8_method_8_code
def yX6_wordOrName : MethodName := ⟨RX6, "wordOrName", "()I"⟩
abbrev cX6_isWord : ByteArray := prog_8_method_9_code
def yX6_isWord : MethodName := ⟨RX6, "isWord", "(I)Z"⟩
abbrev cX6_behindBlanks : ByteArray := prog_8_method_10_code
def yX6_behindBlanks : MethodName := ⟨RX6, "behindBlanks", "(LScopeGraph$Tape;I)I"⟩
abbrev cX6_isBlank : ByteArray := prog_8_method_11_code
def yX6_isBlank : MethodName := ⟨RX6, "isBlank", "(I)Z"⟩
abbrev cX6_isDigit : ByteArray := prog_8_method_12_code
def yX6_isDigit : MethodName := ⟨RX6, "isDigit", "(I)Z"⟩
abbrev cX6_beginsName : ByteArray := prog_8_method_13_code
def yX6_beginsName : MethodName := ⟨RX6, "beginsName", "(I)Z"⟩
abbrev cX6_isInName : ByteArray := prog_8_method_14_code
def yX6_isInName : MethodName := ⟨RX6, "isInName", "(I)Z"⟩
def RX7 : String := "ScopeGraph"
def TX7 : u_T := fun k => match k with
  | 0 => ("ScopeGraph", "tape", "LScopeGraph$Tape;", false)
  | 1 => ("ScopeGraph", "text", "LScopeGraph$Tape;", false)
  | 2 => ("ScopeGraph", "program", "LScopeGraph$Program;", false)
  | 3 => ("ScopeGraph", "draft", "LScopeGraph$Program;", false)
  | 4 => ("ScopeGraph", "meaning", "LScopeGraph$Meaning;", false)
  | 5 => ("ScopeGraph", "trial", "LScopeGraph$Meaning;", false)
  | 6 => ("ScopeGraph", "reader", "LScopeGraph$Reader;", true)
  | 7 => ("ScopeGraph", "resolver", "LScopeGraph$Resolver;", true)
  | _ => ("ScopeGraph", "latestFault", "I", false)
def tyX7 : Nat → FieldType := fun k => match k with
  | 0 => .object "ScopeGraph$Tape"
  | 1 => .object "ScopeGraph$Tape"
  | 2 => .object "ScopeGraph$Program"
  | 3 => .object "ScopeGraph$Program"
  | 4 => .object "ScopeGraph$Meaning"
  | 5 => .object "ScopeGraph$Meaning"
  | 6 => .object "ScopeGraph$Reader"
  | 7 => .object "ScopeGraph$Resolver"
  | _ => .int
abbrev wsX70 : List Cond := u_ws RX7 TX7 9
theorem nmX7 : ∀ a, a < 9 → ∀ b, b < 9 → a ≠ b → (TX7 a).2.1 ≠ (TX7 b).2.1 := by decide +kernel
theorem tyX7_ok : ∀ k, k < 9 → parseFieldDescriptor (TX7 k).2.2.1 = some (tyX7 k) := by decide +kernel
abbrev cX7_init : ByteArray := prog_1_method_1_code
def yX7_init : MethodName := ⟨RX7, "<init>", "()V"⟩
abbrev cX7_feed : ByteArray := prog_1_method_2_code
def yX7_feed : MethodName := ⟨RX7, "feed", "(IIIII)I"⟩
abbrev cX7_end : ByteArray := prog_1_method_3_code
def yX7_end : MethodName := ⟨RX7, "end", "(I)V"⟩
abbrev cX7_read : ByteArray := prog_1_method_4_code
def yX7_read : MethodName := ⟨RX7, "read", "()I"⟩
abbrev cX7_fault : ByteArray := prog_1_method_5_code
def yX7_fault : MethodName := ⟨RX7, "fault", "()I"⟩
abbrev cX7_count : ByteArray := prog_1_method_6_code
def yX7_count : MethodName := ⟨RX7, "count", "(I)I"⟩
abbrev cX7_scope : ByteArray := prog_1_method_7_code
def yX7_scope : MethodName := ⟨RX7, "scope", "(II)I"⟩
abbrev cX7_declaration : ByteArray := prog_1_method_8_code
def yX7_declaration : MethodName := ⟨RX7, "declaration", "(II)I"⟩
abbrev cX7_reference : ByteArray := prog_1_method_9_code
def yX7_reference : MethodName := ⟨RX7, "reference", "(II)I"⟩
abbrev cX7_meant : ByteArray := prog_1_method_10_code
def yX7_meant : MethodName := ⟨RX7, "meant", "(II)I"⟩
abbrev cX7_friends : ByteArray := prog_1_method_11_code
def yX7_friends : MethodName := ⟨RX7, "friends", "(II)Z"⟩
abbrev cX7_rename : ByteArray := prog_1_method_12_code
def yX7_rename : MethodName := ⟨RX7, "rename", "(I)I"⟩
abbrev cX7_letter : ByteArray := prog_1_method_13_code
def yX7_letter : MethodName := ⟨RX7, "letter", "(I)I"⟩
abbrev cX7_swapTapes : ByteArray := prog_1_method_14_code
def yX7_swapTapes : MethodName := ⟨RX7, "swapTapes", "()V"⟩
abbrev cX7_writeNewText : ByteArray := prog_1_method_15_code
def yX7_writeNewText : MethodName := ⟨RX7, "writeNewText", "(JILScopeGraph$Tokens;)V"⟩
abbrev cX7_lowest : ByteArray := prog_1_method_16_code
def yX7_lowest : MethodName := ⟨RX7, "lowest", "(J)I"⟩
abbrev cX7_nameByte : ByteArray := prog_1_method_17_code
def yX7_nameByte : MethodName := ⟨RX7, "nameByte", "(JJI)I"⟩
def RX8 : String := "ScopeGraphModel"
def TX8 : u_T := fun k => match k with
  | 0 => ("ScopeGraphModel", "code", "I", false)
  | 1 => ("ScopeGraphModel", "tape", "[I", true)
  | 2 => ("ScopeGraphModel", "tapeSize", "I", false)
  | 3 => ("ScopeGraphModel", "text", "[I", true)
  | 4 => ("ScopeGraphModel", "textSize", "I", false)
  | 5 => ("ScopeGraphModel", "made", "[I", true)
  | 6 => ("ScopeGraphModel", "madeSize", "I", false)
  | 7 => ("ScopeGraphModel", "faultKind", "I", false)
  | 8 => ("ScopeGraphModel", "scopeParent", "[I", true)
  | 9 => ("ScopeGraphModel", "scopeKind", "[I", true)
  | 10 => ("ScopeGraphModel", "scopes", "I", false)
  | 11 => ("ScopeGraphModel", "declScope", "[I", true)
  | 12 => ("ScopeGraphModel", "declPlace", "[I", true)
  | 13 => ("ScopeGraphModel", "declSize", "[I", true)
  | 14 => ("ScopeGraphModel", "declHas", "[I", true)
  | 15 => ("ScopeGraphModel", "decls", "I", false)
  | 16 => ("ScopeGraphModel", "refScope", "[I", true)
  | 17 => ("ScopeGraphModel", "refPlace", "[I", true)
  | 18 => ("ScopeGraphModel", "refSize", "[I", true)
  | 19 => ("ScopeGraphModel", "refImporter", "[I", true)
  | 20 => ("ScopeGraphModel", "refs", "I", false)
  | 21 => ("ScopeGraphModel", "textImports", "I", false)
  | 22 => ("ScopeGraphModel", "keptParent", "[I", true)
  | 23 => ("ScopeGraphModel", "keptKind", "[I", true)
  | 24 => ("ScopeGraphModel", "keptScopes", "I", false)
  | 25 => ("ScopeGraphModel", "keptDeclScope", "[I", true)
  | 26 => ("ScopeGraphModel", "keptDeclPlace", "[I", true)
  | 27 => ("ScopeGraphModel", "keptDeclSize", "[I", true)
  | 28 => ("ScopeGraphModel", "keptDeclHas", "[I", true)
  | 29 => ("ScopeGraphModel", "keptDecls", "I", false)
  | 30 => ("ScopeGraphModel", "keptRefScope", "[I", true)
  | 31 => ("ScopeGraphModel", "keptRefPlace", "[I", true)
  | 32 => ("ScopeGraphModel", "keptRefSize", "[I", true)
  | 33 => ("ScopeGraphModel", "keptRefImporter", "[I", true)
  | 34 => ("ScopeGraphModel", "keptRefs", "I", false)
  | 35 => ("ScopeGraphModel", "words", "[I", true)
  | 36 => ("ScopeGraphModel", "begins", "[I", true)
  | 37 => ("ScopeGraphModel", "at", "I", false)
  | 38 => ("ScopeGraphModel", "token", "I", false)
  | 39 => ("ScopeGraphModel", "sign", "I", false)
  | 40 => ("ScopeGraphModel", "place", "I", false)
  | 41 => ("ScopeGraphModel", "length", "I", false)
  | 42 => ("ScopeGraphModel", "faultPlace", "I", false)
  | 43 => ("ScopeGraphModel", "oKind", "[I", true)
  | 44 => ("ScopeGraphModel", "oScope", "[I", true)
  | 45 => ("ScopeGraphModel", "oSort", "[I", true)
  | 46 => ("ScopeGraphModel", "oNew", "[I", true)
  | 47 => ("ScopeGraphModel", "opened", "I", false)
  | 48 => ("ScopeGraphModel", "brackets", "I", false)
  | 49 => ("ScopeGraphModel", "scope", "I", false)
  | 50 => ("ScopeGraphModel", "isFurther", "Z", false)
  | 51 => ("ScopeGraphModel", "atoms", "I", false)
  | 52 => ("ScopeGraphModel", "declName", "[I", true)
  | 53 => ("ScopeGraphModel", "refName", "[I", true)
  | 54 => ("ScopeGraphModel", "qKind", "[I", true)
  | 55 => ("ScopeGraphModel", "qStep", "[I", true)
  | 56 => ("ScopeGraphModel", "qScope", "[I", true)
  | 57 => ("ScopeGraphModel", "qName", "[I", true)
  | 58 => ("ScopeGraphModel", "qLow", "[J", true)
  | 59 => ("ScopeGraphModel", "qHigh", "[J", true)
  | 60 => ("ScopeGraphModel", "qScopes", "[J", true)
  | 61 => ("ScopeGraphModel", "qAll", "[J", true)
  | 62 => ("ScopeGraphModel", "qOpen", "[J", true)
  | 63 => ("ScopeGraphModel", "qNext", "[I", true)
  | 64 => ("ScopeGraphModel", "questions", "I", false)
  | 65 => ("ScopeGraphModel", "answer", "J", false)
  | 66 => ("ScopeGraphModel", "up", "I", false)
  | 67 => ("ScopeGraphModel", "near", "Z", false)
  | 68 => ("ScopeGraphModel", "means", "[J", true)
  | 69 => ("ScopeGraphModel", "upOf", "[I", true)
  | 70 => ("ScopeGraphModel", "nearOf", "[Z", true)
  | 71 => ("ScopeGraphModel", "before", "[J", true)
  | 72 => ("ScopeGraphModel", "renamed", "[Z", true)
  | _ => ("ScopeGraphModel", "lastFault", "I", false)
def tyX8 : Nat → FieldType := fun k => match k with
  | 0 => .int
  | 1 => .array .int
  | 2 => .int
  | 3 => .array .int
  | 4 => .int
  | 5 => .array .int
  | 6 => .int
  | 7 => .int
  | 8 => .array .int
  | 9 => .array .int
  | 10 => .int
  | 11 => .array .int
  | 12 => .array .int
  | 13 => .array .int
  | 14 => .array .int
  | 15 => .int
  | 16 => .array .int
  | 17 => .array .int
  | 18 => .array .int
  | 19 => .array .int
  | 20 => .int
  | 21 => .int
  | 22 => .array .int
  | 23 => .array .int
  | 24 => .int
  | 25 => .array .int
  | 26 => .array .int
  | 27 => .array .int
  | 28 => .array .int
  | 29 => .int
  | 30 => .array .int
  | 31 => .array .int
  | 32 => .array .int
  | 33 => .array .int
  | 34 => .int
  | 35 => .array .int
  | 36 => .array .int
  | 37 => .int
  | 38 => .int
  | 39 => .int
  | 40 => .int
  | 41 => .int
  | 42 => .int
  | 43 => .array .int
  | 44 => .array .int
  | 45 => .array .int
  | 46 => .array .int
  | 47 => .int
  | 48 => .int
  | 49 => .int
  | 50 => .boolean
  | 51 => .int
  | 52 => .array .int
  | 53 => .array .int
  | 54 => .array .int
  | 55 => .array .int
  | 56 => .array .int
  | 57 => .array .int
  | 58 => .array .long
  | 59 => .array .long
  | 60 => .array .long
  | 61 => .array .long
  | 62 => .array .long
  | 63 => .array .int
  | 64 => .int
  | 65 => .long
  | 66 => .int
  | 67 => .boolean
  | 68 => .array .long
  | 69 => .array .int
  | 70 => .array .boolean
  | 71 => .array .long
  | 72 => .array .boolean
  | _ => .int
abbrev wsX80 : List Cond := u_ws RX8 TX8 74
theorem nmX8 : ∀ a, a < 74 → ∀ b, b < 74 → a ≠ b → (TX8 a).2.1 ≠ (TX8 b).2.1 := by decide +kernel
theorem tyX8_ok : ∀ k, k < 74 → parseFieldDescriptor (TX8 k).2.2.1 = some (tyX8 k) := by decide +kernel
abbrev cX8_init : ByteArray := prog_10_method_1_code
def yX8_init : MethodName := ⟨RX8, "<init>", "()V"⟩
abbrev cX8_thrown : ByteArray := prog_10_method_2_code
def yX8_thrown : MethodName := ⟨RX8, "thrown", "()I"⟩
abbrev cX8_fails : ByteArray := prog_10_method_3_code
def yX8_fails : MethodName := ⟨RX8, "fails", "(Z)Z"⟩
abbrev cX8_feed : ByteArray := prog_10_method_4_code
def yX8_feed : MethodName := ⟨RX8, "feed", "(IIIII)I"⟩
abbrev cX8_four : ByteArray := prog_10_method_5_code
def yX8_four : MethodName := ⟨RX8, "four", "(I)V"⟩
abbrev cX8_end : ByteArray := prog_10_method_6_code
def yX8_end : MethodName := ⟨RX8, "end", "(I)V"⟩
abbrev cX8_blame : ByteArray := prog_10_method_7_code
def yX8_blame : MethodName := ⟨RX8, "blame", "(II)Z"⟩
abbrev cX8_isLetter : ByteArray := prog_10_method_8_code
def yX8_isLetter : MethodName := ⟨RX8, "isLetter", "(I)Z"⟩
abbrev cX8_isDigit : ByteArray := prog_10_method_9_code
def yX8_isDigit : MethodName := ⟨RX8, "isDigit", "(I)Z"⟩
abbrev cX8_byteAt : ByteArray := prog_10_method_10_code
def yX8_byteAt : MethodName := ⟨RX8, "byteAt", "(I)I"⟩
abbrev cX8_wordOf : ByteArray := prog_10_method_11_code
def yX8_wordOf : MethodName := ⟨RX8, "wordOf", "([III)I"⟩
abbrev cX8_next : ByteArray := prog_10_method_12_code
def yX8_next : MethodName := ⟨RX8, "next", "()Z"⟩
abbrev cX8_is : ByteArray := prog_10_method_13_code
def yX8_is : MethodName := ⟨RX8, "is", "(I)Z"⟩
abbrev cX8_newScope : ByteArray := prog_10_method_14_code
def yX8_newScope : MethodName := ⟨RX8, "newScope", "(III)Z"⟩
abbrev cX8_declare : ByteArray := prog_10_method_15_code
def yX8_declare : MethodName := ⟨RX8, "declare", "(II)Z"⟩
abbrev cX8_bracket : ByteArray := prog_10_method_16_code
def yX8_bracket : MethodName := ⟨RX8, "bracket", "()Z"⟩
abbrev cX8_open : ByteArray := prog_10_method_17_code
def yX8_open : MethodName := ⟨RX8, "open", "(I)V"⟩
abbrev cX8_odd : ByteArray := prog_10_method_18_code
def yX8_odd : MethodName := ⟨RX8, "odd", "()Z"⟩
abbrev cX8_readAll : ByteArray := prog_10_method_19_code
def yX8_readAll : MethodName := ⟨RX8, "readAll", "()Z"⟩
abbrev cX8_dec : ByteArray := prog_10_method_20_code
def yX8_dec : MethodName := ⟨RX8, "dec", "()Z"⟩
abbrev cX8_readLong : ByteArray := prog_10_method_21_code
def yX8_readLong : MethodName := ⟨RX8, "readLong", "()Z"⟩
abbrev cX8_exp : ByteArray := prog_10_method_22_code
def yX8_exp : MethodName := ⟨RX8, "exp", "()Z"⟩
abbrev cX8_fun : ByteArray := prog_10_method_23_code
def yX8_fun : MethodName := ⟨RX8, "fun", "()Z"⟩
abbrev cX8_body : ByteArray := prog_10_method_24_code
def yX8_body : MethodName := ⟨RX8, "body", "(I)Z"⟩
abbrev cX8_binds : ByteArray := prog_10_method_25_code
def yX8_binds : MethodName := ⟨RX8, "binds", "()Z"⟩
abbrev cX8_bind : ByteArray := prog_10_method_26_code
def yX8_bind : MethodName := ⟨RX8, "bind", "()Z"⟩
abbrev cX8_ends : ByteArray := prog_10_method_27_code
def yX8_ends : MethodName := ⟨RX8, "ends", "()Z"⟩
abbrev cX8_keep : ByteArray := prog_10_method_28_code
def yX8_keep : MethodName := ⟨RX8, "keep", "()V"⟩
abbrev cX8_giveBack : ByteArray := prog_10_method_29_code
def yX8_giveBack : MethodName := ⟨RX8, "giveBack", "()V"⟩
abbrev cX8_read : ByteArray := prog_10_method_30_code
def yX8_read : MethodName := ⟨RX8, "read", "()I"⟩
abbrev cX8_takeText : ByteArray := prog_10_method_31_code
def yX8_takeText : MethodName := ⟨RX8, "takeText", "()V"⟩
abbrev cX8_fault : ByteArray := prog_10_method_32_code
def yX8_fault : MethodName := ⟨RX8, "fault", "()I"⟩
abbrev cX8_isSame : ByteArray := prog_10_method_33_code
def yX8_isSame : MethodName := ⟨RX8, "isSame", "(IIII)Z"⟩
abbrev cX8_nameAt : ByteArray := prog_10_method_34_code
def yX8_nameAt : MethodName := ⟨RX8, "nameAt", "(II)I"⟩
abbrev cX8_nameAll : ByteArray := prog_10_method_35_code
def yX8_nameAll : MethodName := ⟨RX8, "nameAll", "()V"⟩
abbrev cX8_ask : ByteArray := prog_10_method_36_code
def yX8_ask : MethodName := ⟨RX8, "ask", "(IIIJJJ)V"⟩
abbrev cX8_says : ByteArray := prog_10_method_37_code
def yX8_says : MethodName := ⟨RX8, "says", "(J)V"⟩
abbrev cX8_here : ByteArray := prog_10_method_38_code
def yX8_here : MethodName := ⟨RX8, "here", "(II)J"⟩
abbrev cX8_has : ByteArray := prog_10_method_39_code
def yX8_has : MethodName := ⟨RX8, "has", "(JI)Z"⟩
abbrev cX8_mean : ByteArray := prog_10_method_40_code
def yX8_mean : MethodName := ⟨RX8, "mean", "(I)V"⟩
abbrev cX8_askMeans : ByteArray := prog_10_method_41_code
def yX8_askMeans : MethodName := ⟨RX8, "askMeans", "(IJJ)V"⟩
abbrev cX8_visible : ByteArray := prog_10_method_42_code
def yX8_visible : MethodName := ⟨RX8, "visible", "(I)V"⟩
abbrev cX8_local : ByteArray := prog_10_method_43_code
def yX8_local : MethodName := ⟨RX8, "local", "(I)V"⟩
abbrev cX8_imports : ByteArray := prog_10_method_44_code
def yX8_imports : MethodName := ⟨RX8, "imports", "(I)V"⟩
abbrev cX8_meanAll : ByteArray := prog_10_method_45_code
def yX8_meanAll : MethodName := ⟨RX8, "meanAll", "()V"⟩
abbrev cX8_many : ByteArray := prog_10_method_46_code
def yX8_many : MethodName := ⟨RX8, "many", "(J)I"⟩
abbrev cX8_count : ByteArray := prog_10_method_47_code
def yX8_count : MethodName := ⟨RX8, "count", "(I)I"⟩
abbrev cX8_scope : ByteArray := prog_10_method_48_code
def yX8_scope : MethodName := ⟨RX8, "scope", "(II)I"⟩
abbrev cX8_friendsOf : ByteArray := prog_10_method_49_code
def yX8_friendsOf : MethodName := ⟨RX8, "friendsOf", "(I)J"⟩
abbrev cX8_declaration : ByteArray := prog_10_method_50_code
def yX8_declaration : MethodName := ⟨RX8, "declaration", "(II)I"⟩
abbrev cX8_reference : ByteArray := prog_10_method_51_code
def yX8_reference : MethodName := ⟨RX8, "reference", "(II)I"⟩
abbrev cX8_meant : ByteArray := prog_10_method_52_code
def yX8_meant : MethodName := ⟨RX8, "meant", "(II)I"⟩
abbrev cX8_friends : ByteArray := prog_10_method_53_code
def yX8_friends : MethodName := ⟨RX8, "friends", "(II)Z"⟩
abbrev cX8_isName : ByteArray := prog_10_method_54_code
def yX8_isName : MethodName := ⟨RX8, "isName", "()Z"⟩
abbrev cX8_isTape : ByteArray := prog_10_method_55_code
def yX8_isTape : MethodName := ⟨RX8, "isTape", "(II)Z"⟩
abbrev cX8_rename : ByteArray := prog_10_method_56_code
def yX8_rename : MethodName := ⟨RX8, "rename", "(I)I"⟩
abbrev cX8_build : ByteArray := prog_10_method_57_code
def yX8_build : MethodName := ⟨RX8, "build", "(J)Z"⟩
abbrev cX8_letter : ByteArray := prog_10_method_58_code
def yX8_letter : MethodName := ⟨RX8, "letter", "(I)I"⟩
def RJ11 : String := "java/lang/Character"
abbrev cJ11_isValidCodePoint_9a6ad : ByteArray := prog_11_method_11_code
def yJ11_isValidCodePoint_9a6ad : MethodName := ⟨RJ11, "isValidCodePoint", "(I)Z"⟩
abbrev cJ11_highSurrogate_5068e : ByteArray := prog_11_method_28_code
def yJ11_highSurrogate_5068e : MethodName := ⟨RJ11, "highSurrogate", "(I)C"⟩
abbrev cJ11_lowSurrogate_5068e : ByteArray := prog_11_method_29_code
def yJ11_lowSurrogate_5068e : MethodName := ⟨RJ11, "lowSurrogate", "(I)C"⟩
def RJ13 : String := "java/lang/Long"
abbrev cJ13_bitCount_95d88 : ByteArray := prog_15_method_50_code
def yJ13_bitCount_95d88 : MethodName := ⟨RJ13, "bitCount", "(J)I"⟩
def RJ9 : String := "java/lang/Math"
abbrev cJ9_max_7cf53 : ByteArray := prog_16_method_65_code
def yJ9_max_7cf53 : MethodName := ⟨RJ9, "max", "(II)I"⟩
abbrev cJ9_min_7cf53 : ByteArray := prog_16_method_69_code
def yJ9_min_7cf53 : MethodName := ⟨RJ9, "min", "(II)I"⟩
def RJ0 : String := "java/lang/String"
abbrev cJ0_length_8abf5 : ByteArray := prog_18_method_54_code
def yJ0_length_8abf5 : MethodName := ⟨RJ0, "length", "()I"⟩
abbrev cJ0_charAt_5068e : ByteArray := prog_18_method_56_code
def yJ0_charAt_5068e : MethodName := ⟨RJ0, "charAt", "(I)C"⟩
abbrev cJ0_indexOf_0f7a4 : ByteArray := prog_18_method_79_code
def yJ0_indexOf_0f7a4 : MethodName := ⟨RJ0, "indexOf", "(I)I"⟩
abbrev cJ0_indexOf_7cf53 : ByteArray := prog_18_method_80_code
def yJ0_indexOf_7cf53 : MethodName := ⟨RJ0, "indexOf", "(II)I"⟩
abbrev cJ0_coder_7d493 : ByteArray := prog_18_method_152_code
def yJ0_coder_7d493 : MethodName := ⟨RJ0, "coder", "()B"⟩
abbrev cJ0_isLatin1_aae02 : ByteArray := prog_18_method_154_code
def yJ0_isLatin1_aae02 : MethodName := ⟨RJ0, "isLatin1", "()Z"⟩
abbrev cJ0_checkIndex_df160 : ByteArray := prog_18_method_155_code
def yJ0_checkIndex_df160 : MethodName := ⟨RJ0, "checkIndex", "(II)V"⟩
abbrev cJ0_checkBoundsBeginEnd_23922 : ByteArray := prog_18_method_158_code
def yJ0_checkBoundsBeginEnd_23922 : MethodName := ⟨RJ0, "checkBoundsBeginEnd", "(III)V"⟩
def RJ1 : String := "java/lang/StringLatin1"
abbrev cJ1_charAt_3b067 : ByteArray := prog_19_method_2_code
def yJ1_charAt_3b067 : MethodName := ⟨RJ1, "charAt", "([BI)C"⟩
abbrev cJ1_canEncode_9a6ad : ByteArray := prog_19_method_4_code
def yJ1_canEncode_9a6ad : MethodName := ⟨RJ1, "canEncode", "(I)Z"⟩
abbrev cJ1_indexOf_4cfef : ByteArray := prog_19_method_22_code
def yJ1_indexOf_4cfef : MethodName := ⟨RJ1, "indexOf", "([BIII)I"⟩
abbrev cJ1_indexOfChar_4cfef : ByteArray := prog_19_method_23_code
def yJ1_indexOfChar_4cfef : MethodName := ⟨RJ1, "indexOfChar", "([BIII)I"⟩
def RJ2 : String := "java/lang/StringUTF16"
abbrev cJ2_getChar_3b067 : ByteArray := prog_20_method_5_code
def yJ2_getChar_3b067 : MethodName := ⟨RJ2, "getChar", "([BI)C"⟩
abbrev cJ2_length_9d52b : ByteArray := prog_20_method_6_code
def yJ2_length_9d52b : MethodName := ⟨RJ2, "length", "([B)I"⟩
abbrev cJ2_indexOf_4cfef : ByteArray := prog_20_method_40_code
def yJ2_indexOf_4cfef : MethodName := ⟨RJ2, "indexOf", "([BIII)I"⟩
abbrev cJ2_indexOfChar_4cfef : ByteArray := prog_20_method_47_code
def yJ2_indexOfChar_4cfef : MethodName := ⟨RJ2, "indexOfChar", "([BIII)I"⟩
abbrev cJ2_indexOfCharUnsafe_4cfef : ByteArray := prog_20_method_48_code
def yJ2_indexOfCharUnsafe_4cfef : MethodName := ⟨RJ2, "indexOfCharUnsafe", "([BIII)I"⟩
abbrev cJ2_indexOfSupplementary_4cfef : ByteArray := prog_20_method_49_code
def yJ2_indexOfSupplementary_4cfef : MethodName := ⟨RJ2, "indexOfSupplementary", "([BIII)I"⟩
abbrev cJ2_charAt_3b067 : ByteArray := prog_20_method_83_code
def yJ2_charAt_3b067 : MethodName := ⟨RJ2, "charAt", "([BI)C"⟩
abbrev cJ2_checkIndex_2214a : ByteArray := prog_20_method_91_code
def yJ2_checkIndex_2214a : MethodName := ⟨RJ2, "checkIndex", "(I[B)V"⟩
abbrev cJ2_checkBoundsBeginEnd_d044e : ByteArray := prog_20_method_93_code
def yJ2_checkBoundsBeginEnd_d044e : MethodName := ⟨RJ2, "checkBoundsBeginEnd", "(II[B)V"⟩
def RJ3 : String := "jdk/internal/util/Preconditions"
abbrev cJ3_checkIndex_8e157 : ByteArray := prog_23_method_11_code
def yJ3_checkIndex_8e157 : MethodName := ⟨RJ3, "checkIndex", "(IILjava/util/function/BiFunction;)I"⟩
abbrev cJ3_checkFromToIndex_8c36e : ByteArray := prog_23_method_12_code
def yJ3_checkFromToIndex_8c36e : MethodName := ⟨RJ3, "checkFromToIndex", "(IIILjava/util/function/BiFunction;)I"⟩
def RL : String := "ScopeGraphLaw"
abbrev cL_feed : ByteArray := method_3_code
def yL_feed : MethodName := ⟨RL, "feed", "(LScopeGraph;IIIII[J)I"⟩
abbrev cL_end : ByteArray := method_4_code
def yL_end : MethodName := ⟨RL, "end", "(LScopeGraph;I)I"⟩
abbrev cL_count : ByteArray := method_5_code
def yL_count : MethodName := ⟨RL, "count", "(LScopeGraph;I[J)I"⟩
abbrev cL_scope : ByteArray := method_6_code
def yL_scope : MethodName := ⟨RL, "scope", "(LScopeGraph;II[J)I"⟩
abbrev cL_declaration : ByteArray := method_7_code
def yL_declaration : MethodName := ⟨RL, "declaration", "(LScopeGraph;II[J)I"⟩
abbrev cL_reference : ByteArray := method_8_code
def yL_reference : MethodName := ⟨RL, "reference", "(LScopeGraph;II[J)I"⟩
abbrev cL_meant : ByteArray := method_9_code
def yL_meant : MethodName := ⟨RL, "meant", "(LScopeGraph;II[J)I"⟩
abbrev cL_friends : ByteArray := method_10_code
def yL_friends : MethodName := ⟨RL, "friends", "(LScopeGraph;II[J)I"⟩
abbrev cL_rename : ByteArray := method_11_code
def yL_rename : MethodName := ⟨RL, "rename", "(LScopeGraph;I[J)I"⟩
abbrev cL_letter : ByteArray := method_12_code
def yL_letter : MethodName := ⟨RL, "letter", "(LScopeGraph;I[J)I"⟩
abbrev cL_law : ByteArray := code
def yL_law : MethodName := ⟨RL, "law", "([I)Z"⟩
abbrev vwCl : List vw_C := [(RX0, TX0, 5), (RX1, TX1, 4), (RX2, TX2, 13), (RX3, TX3, 10), (RX4, TX4, 5), (RX5, TX5, 2), (RX6, TX6, 5), (RX7, TX7, 9), (RX8, TX8, 74)]
end
section
/-! THE WORLD: one flat memory of all cells that the system and the reference made. A cell has a number k (the order of making); its places hold whole numbers (ints, bytes, truth values), longs, or references. -/
abbrev gM : Type := (Nat → Nat → Int32) × (Nat → Nat → Int64) × (Nat → Nat → Option Nat)
/-- what a cell is: an object of the class of that number in vwCl, or an array of that element type and length -/
abbrev gS : Type := Nat ⊕ (FieldType × Nat)
def gsI (μ : gM) (k j : Nat) (v : Int32) : gM := (fun a b => if a = k ∧ b = j then v else μ.1 a b, μ.2.1, μ.2.2)
def gsL (μ : gM) (k j : Nat) (v : Int64) : gM := (μ.1, fun a b => if a = k ∧ b = j then v else μ.2.1 a b, μ.2.2)
def gsR (μ : gM) (k j : Nat) (v : Option Nat) : gM := (μ.1, μ.2.1, fun a b => if a = k ∧ b = j then v else μ.2.2 a b)
def gN : Nat → Nat
  | 0 => 5
  | 1 => 4
  | 2 => 13
  | 3 => 10
  | 4 => 5
  | 5 => 2
  | 6 => 5
  | 7 => 9
  | _ => 74
def gT : Nat → Nat → FieldType
  | 0 => tyX0
  | 1 => tyX1
  | 2 => tyX2
  | 3 => tyX3
  | 4 => tyX4
  | 5 => tyX5
  | 6 => tyX6
  | 7 => tyX7
  | _ => tyX8
def g_fv (ad : Nat → Nat) (μ : gM) (k j : Nat) (ty : FieldType) : Value := match ty with
  | .long => .long (μ.2.1 k j)
  | .object _ => va_rf ((μ.2.2 k j).map ad)
  | .array _ => va_rf ((μ.2.2 k j).map ad)
  | _ => .int (μ.1 k j)
def g_ar (μ : gM) (k : Nat) (ty : FieldType) : (Nat → Int32) ⊕ (Nat → Int64) ⊕ (Nat → UInt32) ⊕ (Nat → UInt64) ⊕ (Nat → Option Nat) := match ty with
  | .long => .inr (.inl (μ.2.1 k))
  | _ => .inl (μ.1 k)
def g_ce (ad : Nat → Nat) (cA : FieldType → ClassId) (μ : gM) (k : Nat) (x : gS) : va_E := match x with
  | .inl ci => .inr (ci, (List.range (gN ci)).map (fun j => g_fv ad μ k j (gT ci j)))
  | .inr q => .inl (cA q.1, q.2, g_ar μ k q.1)
def g_wl (ad : Nat → Nat) (cA : FieldType → ClassId) (sh : List gS) (μ : gM) : va_W := (List.range sh.length).map (fun k => (ad k, g_ce ad cA μ k (sh.getD k (.inl 0))))
theorem g_wl_at {ad : Nat → Nat} {cA : FieldType → ClassId} {sh : List gS} {μ : gM} {k : Nat} {x : gS} (h : sh[k]? = some x) : (g_wl ad cA sh μ)[k]? = some (ad k, g_ce ad cA μ k x) := by
  have hk : k < sh.length := (List.getElem?_eq_some_iff.mp h).1
  simp [g_wl, hk]
  rw [(List.getElem?_eq_some_iff.mp h).2]
theorem g_wl_len {ad : Nat → Nat} {cA : FieldType → ClassId} {sh : List gS} {μ : gM} : (g_wl ad cA sh μ).length = sh.length := by simp [g_wl]
/-- a store into one cell -/
theorem g_wl_set {ad : Nat → Nat} {cA : FieldType → ClassId} {sh : List gS} {μ μ' : gM} {k : Nat} {x : gS} {e : va_E} (h : sh[k]? = some x) (he : g_ce ad cA μ' k x = e) (ho : ∀ j, j ≠ k → ∀ y, g_ce ad cA μ' j y = g_ce ad cA μ j y) : (g_wl ad cA sh μ).set k (ad k, e) = g_wl ad cA sh μ' := by
  apply List.ext_getElem?
  intro i
  by_cases hi : i = k
  · subst hi
    have hk : i < sh.length := (List.getElem?_eq_some_iff.mp h).1
    rw [g_wl_at h, List.getElem?_set_self (by rw [g_wl_len]; exact hk), he]
  · rw [List.getElem?_set_ne (fun q => hi q.symm)]
    by_cases hl : i < sh.length
    · have h1 : sh[i]? = some sh[i] := List.getElem?_eq_getElem hl
      rw [g_wl_at h1, g_wl_at h1, ho i hi]
    · rw [List.getElem?_eq_none (by rw [g_wl_len]; omega), List.getElem?_eq_none (by rw [g_wl_len]; omega)]
theorem g_ce_ne {ad : Nat → Nat} {cA : FieldType → ClassId} {μ μ' : gM} {j : Nat} (h1 : μ'.1 j = μ.1 j) (h2 : μ'.2.1 j = μ.2.1 j) (h3 : μ'.2.2 j = μ.2.2 j) (y : gS) : g_ce ad cA μ' j y = g_ce ad cA μ j y := by
  have hf : ∀ i ty, g_fv ad μ' j i ty = g_fv ad μ j i ty := by
    intro i ty
    cases ty <;> simp [g_fv, h1, h2, h3]
  have ha : ∀ ty, g_ar μ' j ty = g_ar μ j ty := by
    intro ty
    cases ty <;> simp [g_ar, h1, h2]
  cases y with
  | inl ci => simp [g_ce, hf]
  | inr q => simp [g_ce, ha]
theorem gsI_ne {μ : gM} {k j : Nat} {v : Int32} {a : Nat} (h : a ≠ k) : (gsI μ k j v).1 a = μ.1 a := by
  funext b
  simp [gsI, h]
theorem gsL_ne {μ : gM} {k j : Nat} {v : Int64} {a : Nat} (h : a ≠ k) : (gsL μ k j v).2.1 a = μ.2.1 a := by
  funext b
  simp [gsL, h]
theorem gsR_ne {μ : gM} {k j : Nat} {v : Option Nat} {a : Nat} (h : a ≠ k) : (gsR μ k j v).2.2 a = μ.2.2 a := by
  funext b
  simp [gsR, h]
theorem g_oI {ad : Nat → Nat} {cA : FieldType → ClassId} {μ : gM} {k j : Nat} {v : Int32} : ∀ i, i ≠ k → ∀ y, g_ce ad cA (gsI μ k j v) i y = g_ce ad cA μ i y := fun _ h y => g_ce_ne (gsI_ne h) rfl rfl y
theorem g_oL {ad : Nat → Nat} {cA : FieldType → ClassId} {μ : gM} {k j : Nat} {v : Int64} : ∀ i, i ≠ k → ∀ y, g_ce ad cA (gsL μ k j v) i y = g_ce ad cA μ i y := fun i h y => g_ce_ne (μ := μ) (μ' := gsL μ k j v) (j := i) rfl (gsL_ne h) rfl y
theorem g_oR {ad : Nat → Nat} {cA : FieldType → ClassId} {μ : gM} {k j : Nat} {v : Option Nat} : ∀ i, i ≠ k → ∀ y, g_ce ad cA (gsR μ k j v) i y = g_ce ad cA μ i y := fun i h y => g_ce_ne (μ := μ) (μ' := gsR μ k j v) (j := i) rfl rfl (gsR_ne h) y
/-- a field's value changed -/
theorem g_fs_set {ad : Nat → Nat} {μ μ' : gM} {k ci j : Nat} {v : Value} (hj : j < gN ci) (hv : g_fv ad μ' k j (gT ci j) = v) (ho : ∀ i, i ≠ j → g_fv ad μ' k i (gT ci i) = g_fv ad μ k i (gT ci i)) :
    ((List.range (gN ci)).map (fun i => g_fv ad μ k i (gT ci i))).set j v = (List.range (gN ci)).map (fun i => g_fv ad μ' k i (gT ci i)) := by
  apply List.ext_getElem?
  intro i
  by_cases hi : i = j
  · subst hi
    rw [List.getElem?_set_self (by simp [hj])]
    simp [hj, hv]
  · rw [List.getElem?_set_ne (fun q => hi q.symm)]
    by_cases hl : i < gN ci
    · simp [hl, ho i hi]
    · simp [hl]
theorem g_fsI {ad : Nat → Nat} {μ : gM} {k ci j : Nat} {v : Int32} (hj : j < gN ci) (ht : g_fv ad (gsI μ k j v) k j (gT ci j) = .int v) : ((List.range (gN ci)).map (fun i => g_fv ad μ k i (gT ci i))).set j (.int v) = (List.range (gN ci)).map (fun i => g_fv ad (gsI μ k j v) k i (gT ci i)) := by
  refine g_fs_set hj ht (fun i hi => ?_)
  generalize gT ci i = ty
  cases ty <;> simp [g_fv, gsI, hi]
theorem g_fsL {ad : Nat → Nat} {μ : gM} {k ci j : Nat} {v : Int64} (hj : j < gN ci) (ht : g_fv ad (gsL μ k j v) k j (gT ci j) = .long v) : ((List.range (gN ci)).map (fun i => g_fv ad μ k i (gT ci i))).set j (.long v) = (List.range (gN ci)).map (fun i => g_fv ad (gsL μ k j v) k i (gT ci i)) := by
  refine g_fs_set hj ht (fun i hi => ?_)
  generalize gT ci i = ty
  cases ty <;> simp [g_fv, gsL, hi]
theorem g_fsR {ad : Nat → Nat} {μ : gM} {k ci j : Nat} {v : Option Nat} {w : Value} (hj : j < gN ci) (ht : g_fv ad (gsR μ k j v) k j (gT ci j) = w) : ((List.range (gN ci)).map (fun i => g_fv ad μ k i (gT ci i))).set j w = (List.range (gN ci)).map (fun i => g_fv ad (gsR μ k j v) k i (gT ci i)) := by
  refine g_fs_set hj ht (fun i hi => ?_)
  generalize gT ci i = ty
  cases ty <;> simp [g_fv, gsR, hi]
end
section
/-! A METHOD'S BODY over the flat memory. X: the machine (program, launch, environment, room, start state, method, arguments, frames below, method, code); w: the world (class numbers, array classes, addresses, the first new address, the cells' kinds). -/
abbrev gX : Type := Program × Launch × Env × Room × State × MethodId × Array Value × List Frame × Method × Code
abbrev gW : Type := va_G × (FieldType → ClassId) × (Nat → Nat) × Nat × List gS × (State → Prop)
abbrev gK : Type := List (Nat × Instr × Nat)
def gTb : List Cond := lw_tbl.filter goodWord
def g_isN : Cond → Bool
  | .fieldLinkNest _ _ _ _ _ _ => true
  | .methodLinkNest _ _ _ _ => true
  | _ => false
def gNb : List Cond := lw_tbl.filter g_isN
def g_tys (cA : FieldType → ClassId) : List (ClassId × FieldType) := [(cA .int, .int), (cA .long, .long), (cA .byte, .byte), (cA .boolean, .boolean)]
def tv (ad : Nat → Nat) : Value → Value
  | .ref k => .ref (ad k)
  | v => v
def tvp (ad : Nat → Nat) (q : Nat × Value) : Nat × Value := (q.1, tv ad q.2)
theorem tv_cat (ad : Nat → Nat) (v : Value) : (tv ad v).category = v.category := by cases v <;> rfl
def gA (w : gW) : Nat → Prop := fun q => w.2.2.2.1 ≤ q
def gwl (w : gW) (μ : gM) : va_W := g_wl w.2.2.1 w.2.1 w.2.2.2.2.1 μ
/-- what a body may use: the machine's words, the method's instructions, its room (d frames), the tables' words; J: what else the start gives and no step takes away -/
def gC (X : gX) (w : gW) (K : gK) (nL : Nat) (own : String) (d : Nat) : Prop :=
  X.1.tables.exec = Jvm.exec ∧ (∀ q ∈ K, decode X.2.2.2.2.2.2.2.2.2.code q.1 = .ok q.2) ∧ X.2.2.2.2.2.2.2.2.2.maxLocals = nL ∧ X.2.2.2.2.1.vm.findClass own = some X.2.2.2.2.2.1.cls ∧ (∀ q ∈ gTb, q.before X.2.2.2.2.2.2.1 X.2.2.2.2.1 = true) ∧ (∀ q ∈ gNb, va_Nw q X.2.2.2.2.1) ∧ va_K w.1 vwCl (g_tys w.2.1) X.2.2.2.2.1 ∧ X.2.2.2.2.2.2.2.2.1.locks = false ∧ d ≤ X.2.2.2.1.frames ∧ 37 * d ≤ X.2.2.2.1.locals ∧ w.2.2.2.2.2 X.2.2.2.2.1 ∧ (∀ u U : State, w.2.2.2.2.2 u → u.WarmedH U.vm → va_F (gA w) u U → w.2.2.2.2.2 U)
def gV (X : gX) (w : gW) (kc ks : Nat) (Q : State → Prop) (nL pc : Nat) (lv : List (Nat × Value)) (st : List Value) (μ : gM) : Prop :=
  ∀ (H : Heap) (locs : List Loc) (ls : Array Slot), va_P w.1 vwCl (gwl w μ) H → va_D (gA w) (gwl w μ) → va_S (gA w) X.2.2.2.2.1.heap H locs → lv_has ls nL (lv.map (tvp w.2.2.1)) →
    W X.1 X.2.1 X.2.2.1 X.2.2.2.1 X.2.2.2.2.1 X.2.2.2.2.2.1 X.2.2.2.2.2.2.1 X.2.2.2.2.2.2.2.1 X.2.2.2.2.2.2.2.2.1 X.2.2.2.2.2.2.2.2.2 H locs kc ks Q (F0 X.2.2.2.2.2.1 pc ls (st.map (tv w.2.2.1)))
theorem g_at {X : gX} {w : gW} {K : gK} {nL d : Nat} {own : String} (C : gC X w K nL own d) (i : Nat) {pc len : Nat} {ins : Instr} (h : K[i]? = some (pc, ins, len)) : decode X.2.2.2.2.2.2.2.2.2.code pc = .ok (ins, len) := C.2.1 (pc, ins, len) (List.mem_of_getElem? h)
theorem g_lv {ad : Nat → Nat} {ls : Array Slot} {nL : Nat} {lv : List (Nat × Value)} (h : lv_has ls nL (lv.map (tvp ad))) (j : Nat) {i : Nat} {v : Value} (hj : lv[j]? = some (i, v)) : ls[i]? = some (.val (tv ad v)) := lv_at h j (by rw [List.getElem?_map, hj]; rfl)
def g_s1 (lv : List (Nat × Value)) (i : Nat) (v : Value) : List (Nat × Value) := (i, v) :: lv.filter (fun q => !(q.1 == i) && !(q.1 + 1 == i && q.2.category == 2))
def g_s2 (lv : List (Nat × Value)) (i : Nat) (v : Value) : List (Nat × Value) := (i, v) :: lv.filter (fun q => !(q.1 == i) && (!(q.1 == i + 1) && !(q.1 + 1 == i && q.2.category == 2)))
theorem g_fm {ad : Nat → Nat} (f : Nat → Nat → Bool) (lv : List (Nat × Value)) : (lv.map (tvp ad)).filter (fun q => f q.1 q.2.category) = (lv.filter (fun q => f q.1 q.2.category)).map (tvp ad) := by
  rw [List.filter_map]
  congr 1
  apply List.filter_congr
  intro q _
  simp [tvp, tv_cat]
theorem g_s1m {ad : Nat → Nat} (lv : List (Nat × Value)) (i : Nat) (v : Value) : (i, tv ad v) :: (lv.map (tvp ad)).filter (fun q => !(q.1 == i) && !(q.1 + 1 == i && q.2.category == 2)) = (g_s1 lv i v).map (tvp ad) := by
  rw [g_fm (fun a c => !(a == i) && !(a + 1 == i && c == 2)) lv]
  rfl
theorem g_s2m {ad : Nat → Nat} (lv : List (Nat × Value)) (i : Nat) (v : Value) : (i, tv ad v) :: (lv.map (tvp ad)).filter (fun q => !(q.1 == i) && (!(q.1 == i + 1) && !(q.1 + 1 == i && q.2.category == 2))) = (g_s2 lv i v).map (tvp ad) := by
  rw [g_fm (fun a c => !(a == i) && (!(a == i + 1) && !(a + 1 == i && c == 2))) lv]
  rfl
section GV
variable {X : gX} {w : gW} {K : gK} {kc ks nL pc d : Nat} {own : String} {Q : State → Prop} {lv lv' : List (Nat × Value)} {st : List Value} {μ : gM}
theorem v_sub (lv' : List (Nat × Value)) (ks' : List Nat) (hs : lv_pick lv ks' = lv') (k : gV X w kc ks Q nL pc lv' st μ) : gV X w kc ks Q nL pc lv st μ := fun H locs ls hP hD hS hl => k H locs ls hP hD hS (lv_sub hl ks' (by
  rw [← hs]
  simp only [lv_pick, List.map_filterMap, List.getElem?_map]))
theorem v_iadd (C : gC X w K nL own d) (i : Nat) {x : Int32} {y : Int32} (hd : K[i]? = some (pc, .iadd, 1)) (k : gV X w kc ks Q nL (pc + 1) lv (.int (x + y) :: st) μ) : gV X w kc ks Q nL pc lv (.int y :: .int x :: st) μ := fun H locs ls hP hD hS hl => lv_iadd C.1 rfl (g_at C i hd) (k H locs ls hP hD hS hl)
theorem v_isub (C : gC X w K nL own d) (i : Nat) {x : Int32} {y : Int32} (hd : K[i]? = some (pc, .isub, 1)) (k : gV X w kc ks Q nL (pc + 1) lv (.int (x - y) :: st) μ) : gV X w kc ks Q nL pc lv (.int y :: .int x :: st) μ := fun H locs ls hP hD hS hl => lv_isub C.1 rfl (g_at C i hd) (k H locs ls hP hD hS hl)
theorem v_imul (C : gC X w K nL own d) (i : Nat) {x : Int32} {y : Int32} (hd : K[i]? = some (pc, .imul, 1)) (k : gV X w kc ks Q nL (pc + 1) lv (.int (x * y) :: st) μ) : gV X w kc ks Q nL pc lv (.int y :: .int x :: st) μ := fun H locs ls hP hD hS hl => lv_imul C.1 rfl (g_at C i hd) (k H locs ls hP hD hS hl)
theorem v_iand (C : gC X w K nL own d) (i : Nat) {x : Int32} {y : Int32} (hd : K[i]? = some (pc, .iand, 1)) (k : gV X w kc ks Q nL (pc + 1) lv (.int (x &&& y) :: st) μ) : gV X w kc ks Q nL pc lv (.int y :: .int x :: st) μ := fun H locs ls hP hD hS hl => lv_iand C.1 rfl (g_at C i hd) (k H locs ls hP hD hS hl)
theorem v_ior (C : gC X w K nL own d) (i : Nat) {x : Int32} {y : Int32} (hd : K[i]? = some (pc, .ior, 1)) (k : gV X w kc ks Q nL (pc + 1) lv (.int (x ||| y) :: st) μ) : gV X w kc ks Q nL pc lv (.int y :: .int x :: st) μ := fun H locs ls hP hD hS hl => lv_ior C.1 rfl (g_at C i hd) (k H locs ls hP hD hS hl)
theorem v_ixor (C : gC X w K nL own d) (i : Nat) {x : Int32} {y : Int32} (hd : K[i]? = some (pc, .ixor, 1)) (k : gV X w kc ks Q nL (pc + 1) lv (.int (x ^^^ y) :: st) μ) : gV X w kc ks Q nL pc lv (.int y :: .int x :: st) μ := fun H locs ls hP hD hS hl => lv_ixor C.1 rfl (g_at C i hd) (k H locs ls hP hD hS hl)
theorem v_ishl (C : gC X w K nL own d) (i : Nat) {x : Int32} {y : Int32} (hd : K[i]? = some (pc, .ishl, 1)) (k : gV X w kc ks Q nL (pc + 1) lv (.int (x <<< (y &&& 31)) :: st) μ) : gV X w kc ks Q nL pc lv (.int y :: .int x :: st) μ := fun H locs ls hP hD hS hl => lv_ishl C.1 rfl (g_at C i hd) (k H locs ls hP hD hS hl)
theorem v_ishr (C : gC X w K nL own d) (i : Nat) {x : Int32} {y : Int32} (hd : K[i]? = some (pc, .ishr, 1)) (k : gV X w kc ks Q nL (pc + 1) lv (.int (x >>> (y &&& 31)) :: st) μ) : gV X w kc ks Q nL pc lv (.int y :: .int x :: st) μ := fun H locs ls hP hD hS hl => lv_ishr C.1 rfl (g_at C i hd) (k H locs ls hP hD hS hl)
theorem v_iushr (C : gC X w K nL own d) (i : Nat) {x : Int32} {y : Int32} (hd : K[i]? = some (pc, .iushr, 1)) (k : gV X w kc ks Q nL (pc + 1) lv (.int ((x.toUInt32 >>> (y.toUInt32 &&& Int32.toUInt32 31)).toInt32) :: st) μ) : gV X w kc ks Q nL pc lv (.int y :: .int x :: st) μ := fun H locs ls hP hD hS hl => lv_iushr C.1 rfl (g_at C i hd) rfl (k H locs ls hP hD hS hl)
theorem v_ladd (C : gC X w K nL own d) (i : Nat) {x : Int64} {y : Int64} (hd : K[i]? = some (pc, .ladd, 1)) (k : gV X w kc ks Q nL (pc + 1) lv (.long (x + y) :: st) μ) : gV X w kc ks Q nL pc lv (.long y :: .long x :: st) μ := fun H locs ls hP hD hS hl => lv_ladd C.1 rfl (g_at C i hd) (k H locs ls hP hD hS hl)
theorem v_lsub (C : gC X w K nL own d) (i : Nat) {x : Int64} {y : Int64} (hd : K[i]? = some (pc, .lsub, 1)) (k : gV X w kc ks Q nL (pc + 1) lv (.long (x - y) :: st) μ) : gV X w kc ks Q nL pc lv (.long y :: .long x :: st) μ := fun H locs ls hP hD hS hl => lv_lsub C.1 rfl (g_at C i hd) (k H locs ls hP hD hS hl)
theorem v_land (C : gC X w K nL own d) (i : Nat) {x : Int64} {y : Int64} (hd : K[i]? = some (pc, .land, 1)) (k : gV X w kc ks Q nL (pc + 1) lv (.long (x &&& y) :: st) μ) : gV X w kc ks Q nL pc lv (.long y :: .long x :: st) μ := fun H locs ls hP hD hS hl => lv_land C.1 rfl (g_at C i hd) (k H locs ls hP hD hS hl)
theorem v_lor (C : gC X w K nL own d) (i : Nat) {x : Int64} {y : Int64} (hd : K[i]? = some (pc, .lor, 1)) (k : gV X w kc ks Q nL (pc + 1) lv (.long (x ||| y) :: st) μ) : gV X w kc ks Q nL pc lv (.long y :: .long x :: st) μ := fun H locs ls hP hD hS hl => lv_lor C.1 rfl (g_at C i hd) (k H locs ls hP hD hS hl)
theorem v_lxor (C : gC X w K nL own d) (i : Nat) {x : Int64} {y : Int64} (hd : K[i]? = some (pc, .lxor, 1)) (k : gV X w kc ks Q nL (pc + 1) lv (.long (x ^^^ y) :: st) μ) : gV X w kc ks Q nL pc lv (.long y :: .long x :: st) μ := fun H locs ls hP hD hS hl => lv_lxor C.1 rfl (g_at C i hd) (k H locs ls hP hD hS hl)
theorem v_lushr (C : gC X w K nL own d) (i : Nat) {x : Int64} {y : Int32} (hd : K[i]? = some (pc, .lushr, 1)) (k : gV X w kc ks Q nL (pc + 1) lv (.long ((x.toUInt64 >>> (y.toInt64.toUInt64 &&& Int64.toUInt64 63)).toInt64) :: st) μ) : gV X w kc ks Q nL pc lv (.int y :: .long x :: st) μ := fun H locs ls hP hD hS hl => lv_lushr C.1 rfl (g_at C i hd) rfl (k H locs ls hP hD hS hl)
theorem v_lshl (C : gC X w K nL own d) (i : Nat) {x : Int64} {y : Int32} (hd : K[i]? = some (pc, .lshl, 1)) (k : gV X w kc ks Q nL (pc + 1) lv (.long (x <<< (y.toInt64 &&& 63)) :: st) μ) : gV X w kc ks Q nL pc lv (.int y :: .long x :: st) μ := fun H locs ls hP hD hS hl => lv_lshl C.1 rfl (g_at C i hd) rfl (k H locs ls hP hD hS hl)
theorem v_lshr (C : gC X w K nL own d) (i : Nat) {x : Int64} {y : Int32} (hd : K[i]? = some (pc, .lshr, 1)) (k : gV X w kc ks Q nL (pc + 1) lv (.long (x >>> (y.toInt64 &&& 63)) :: st) μ) : gV X w kc ks Q nL pc lv (.int y :: .long x :: st) μ := fun H locs ls hP hD hS hl => lv_lshr C.1 rfl (g_at C i hd) rfl (k H locs ls hP hD hS hl)
theorem v_ineg (C : gC X w K nL own d) (i : Nat) {x : Int32} (hd : K[i]? = some (pc, .ineg, 1)) (k : gV X w kc ks Q nL (pc + 1) lv (.int (-x) :: st) μ) : gV X w kc ks Q nL pc lv (.int x :: st) μ := fun H locs ls hP hD hS hl => lv_ineg C.1 rfl (g_at C i hd) (k H locs ls hP hD hS hl)
theorem v_lneg (C : gC X w K nL own d) (i : Nat) {x : Int64} (hd : K[i]? = some (pc, .lneg, 1)) (k : gV X w kc ks Q nL (pc + 1) lv (.long (-x) :: st) μ) : gV X w kc ks Q nL pc lv (.long x :: st) μ := fun H locs ls hP hD hS hl => lv_lneg C.1 rfl (g_at C i hd) (k H locs ls hP hD hS hl)
theorem v_i2l (C : gC X w K nL own d) (i : Nat) {x : Int32} (hd : K[i]? = some (pc, .i2l, 1)) (k : gV X w kc ks Q nL (pc + 1) lv (.long (x.toInt64) :: st) μ) : gV X w kc ks Q nL pc lv (.int x :: st) μ := fun H locs ls hP hD hS hl => lv_i2l C.1 rfl (g_at C i hd) rfl (k H locs ls hP hD hS hl)
theorem v_l2i (C : gC X w K nL own d) (i : Nat) {x : Int64} (hd : K[i]? = some (pc, .l2i, 1)) (k : gV X w kc ks Q nL (pc + 1) lv (.int (x.toInt32) :: st) μ) : gV X w kc ks Q nL pc lv (.long x :: st) μ := fun H locs ls hP hD hS hl => lv_l2i C.1 rfl (g_at C i hd) rfl (k H locs ls hP hD hS hl)
theorem v_i2b (C : gC X w K nL own d) (i : Nat) {x : Int32} (hd : K[i]? = some (pc, .i2b, 1)) (k : gV X w kc ks Q nL (pc + 1) lv (.int (x.toInt8.toInt32) :: st) μ) : gV X w kc ks Q nL pc lv (.int x :: st) μ := fun H locs ls hP hD hS hl => lv_i2b C.1 rfl (g_at C i hd) rfl (k H locs ls hP hD hS hl)
theorem v_i2c (C : gC X w K nL own d) (i : Nat) {x : Int32} (hd : K[i]? = some (pc, .i2c, 1)) (k : gV X w kc ks Q nL (pc + 1) lv (.int ((x.toUInt32 % 65536).toInt32) :: st) μ) : gV X w kc ks Q nL pc lv (.int x :: st) μ := fun H locs ls hP hD hS hl => lv_i2c C.1 rfl (g_at C i hd) rfl (k H locs ls hP hD hS hl)
theorem v_iconst (C : gC X w K nL own d) (i : Nat) {n : Int} (v : Int32) (hd : K[i]? = some (pc, .iconst n, 1)) (hv : Int32.ofInt n = v) (k : gV X w kc ks Q nL (pc + 1) lv (.int v :: st) μ) : gV X w kc ks Q nL pc lv st μ := fun H locs ls hP hD hS hl => lv_iconst C.1 rfl (g_at C i hd) hv (k H locs ls hP hD hS hl)
theorem v_bipush (C : gC X w K nL own d) (i : Nat) {n : Int} (v : Int32) (hd : K[i]? = some (pc, .bipush n, 2)) (hv : (Int8.ofInt n).toInt32 = v) (k : gV X w kc ks Q nL (pc + 2) lv (.int v :: st) μ) : gV X w kc ks Q nL pc lv st μ := fun H locs ls hP hD hS hl => lv_bipush C.1 rfl (g_at C i hd) hv (k H locs ls hP hD hS hl)
theorem v_sipush (C : gC X w K nL own d) (i : Nat) {n : Int} (v : Int32) (hd : K[i]? = some (pc, .sipush n, 3)) (hv : (Int16.ofInt n).toInt32 = v) (k : gV X w kc ks Q nL (pc + 3) lv (.int v :: st) μ) : gV X w kc ks Q nL pc lv st μ := fun H locs ls hP hD hS hl => lv_sipush C.1 rfl (g_at C i hd) hv (k H locs ls hP hD hS hl)
theorem v_lconst (C : gC X w K nL own d) (i : Nat) {n : Fin 2} (v : Int64) (hd : K[i]? = some (pc, .lconst n, 1)) (hv : Int64.ofNat n = v) (k : gV X w kc ks Q nL (pc + 1) lv (.long v :: st) μ) : gV X w kc ks Q nL pc lv st μ := fun H locs ls hP hD hS hl => lv_lconst C.1 rfl (g_at C i hd) hv (k H locs ls hP hD hS hl)
theorem v_iload_n (C : gC X w K nL own d) (i j : Nat) {n : Fin 4} {b : Nat} {x : Int32} (hd : K[i]? = some (pc, .iload_n n, 1)) (hb : (n : Nat) = b) (hj : lv[j]? = some (b, .int x)) (k : gV X w kc ks Q nL (pc + 1) lv (.int x :: st) μ) : gV X w kc ks Q nL pc lv st μ := fun H locs ls hP hD hS hl => lv_iload_n C.1 rfl (g_at C i hd) hb (g_lv hl j hj) (k H locs ls hP hD hS hl)
theorem v_iload (C : gC X w K nL own d) (i j : Nat) {b : Nat} {x : Int32} (hd : K[i]? = some (pc, .iload b, 2)) (hj : lv[j]? = some (b, .int x)) (k : gV X w kc ks Q nL (pc + 2) lv (.int x :: st) μ) : gV X w kc ks Q nL pc lv st μ := fun H locs ls hP hD hS hl => lv_iload C.1 rfl (g_at C i hd) (g_lv hl j hj) (k H locs ls hP hD hS hl)
theorem v_lload_n (C : gC X w K nL own d) (i j : Nat) {n : Fin 4} {b : Nat} {x : Int64} (hd : K[i]? = some (pc, .lload_n n, 1)) (hb : (n : Nat) = b) (hj : lv[j]? = some (b, .long x)) (k : gV X w kc ks Q nL (pc + 1) lv (.long x :: st) μ) : gV X w kc ks Q nL pc lv st μ := fun H locs ls hP hD hS hl => lv_lload_n C.1 rfl (g_at C i hd) hb (g_lv hl j hj) (k H locs ls hP hD hS hl)
theorem v_lload (C : gC X w K nL own d) (i j : Nat) {b : Nat} {x : Int64} (hd : K[i]? = some (pc, .lload b, 2)) (hj : lv[j]? = some (b, .long x)) (k : gV X w kc ks Q nL (pc + 2) lv (.long x :: st) μ) : gV X w kc ks Q nL pc lv st μ := fun H locs ls hP hD hS hl => lv_lload C.1 rfl (g_at C i hd) (g_lv hl j hj) (k H locs ls hP hD hS hl)
theorem v_aload_n (C : gC X w K nL own d) (i j : Nat) {n : Fin 4} {b : Nat} {x : Nat} (hd : K[i]? = some (pc, .aload_n n, 1)) (hb : (n : Nat) = b) (hj : lv[j]? = some (b, .ref x)) (k : gV X w kc ks Q nL (pc + 1) lv (.ref x :: st) μ) : gV X w kc ks Q nL pc lv st μ := fun H locs ls hP hD hS hl => lv_aload_n C.1 rfl (g_at C i hd) hb (g_lv hl j hj) (k H locs ls hP hD hS hl)
theorem v_aload (C : gC X w K nL own d) (i j : Nat) {b : Nat} {x : Nat} (hd : K[i]? = some (pc, .aload b, 2)) (hj : lv[j]? = some (b, .ref x)) (k : gV X w kc ks Q nL (pc + 2) lv (.ref x :: st) μ) : gV X w kc ks Q nL pc lv st μ := fun H locs ls hP hD hS hl => lv_aload C.1 rfl (g_at C i hd) (g_lv hl j hj) (k H locs ls hP hD hS hl)
theorem v_istore_n (C : gC X w K nL own d) (i : Nat) {n : Fin 4} {b : Nat} {x : Int32} (hd : K[i]? = some (pc, .istore_n n, 1)) (hb : (n : Nat) = b) (hn : b < nL) (hl' : g_s1 lv b (.int x) = lv') (k : gV X w kc ks Q nL (pc + 1) lv' st μ) : gV X w kc ks Q nL pc lv (.int x :: st) μ := fun H locs ls hP hD hS hl => lv_istore_n C.1 rfl (g_at C i hd) hb hl hn (g_s1m lv b (.int x)) (fun ls' hl2 => k H locs ls' hP hD hS (by rw [← hl']; exact hl2))
theorem v_istore (C : gC X w K nL own d) (i : Nat) {b : Nat} {x : Int32} (hd : K[i]? = some (pc, .istore b, 2)) (hn : b < nL) (hl' : g_s1 lv b (.int x) = lv') (k : gV X w kc ks Q nL (pc + 2) lv' st μ) : gV X w kc ks Q nL pc lv (.int x :: st) μ := fun H locs ls hP hD hS hl => lv_istore C.1 rfl (g_at C i hd) hl hn (g_s1m lv b (.int x)) (fun ls' hl2 => k H locs ls' hP hD hS (by rw [← hl']; exact hl2))
theorem v_lstore_n (C : gC X w K nL own d) (i : Nat) {n : Fin 4} {b : Nat} {x : Int64} (hd : K[i]? = some (pc, .lstore_n n, 1)) (hb : (n : Nat) = b) (hn : b + 1 < nL) (hl' : g_s2 lv b (.long x) = lv') (k : gV X w kc ks Q nL (pc + 1) lv' st μ) : gV X w kc ks Q nL pc lv (.long x :: st) μ := fun H locs ls hP hD hS hl => lv_lstore_n C.1 rfl (g_at C i hd) hb hl hn (g_s2m lv b (.long x)) (fun ls' hl2 => k H locs ls' hP hD hS (by rw [← hl']; exact hl2))
theorem v_lstore (C : gC X w K nL own d) (i : Nat) {b : Nat} {x : Int64} (hd : K[i]? = some (pc, .lstore b, 2)) (hn : b + 1 < nL) (hl' : g_s2 lv b (.long x) = lv') (k : gV X w kc ks Q nL (pc + 2) lv' st μ) : gV X w kc ks Q nL pc lv (.long x :: st) μ := fun H locs ls hP hD hS hl => lv_lstore C.1 rfl (g_at C i hd) hl hn (g_s2m lv b (.long x)) (fun ls' hl2 => k H locs ls' hP hD hS (by rw [← hl']; exact hl2))
theorem v_astore_n (C : gC X w K nL own d) (i : Nat) {n : Fin 4} {b : Nat} {x : Nat} (hd : K[i]? = some (pc, .astore_n n, 1)) (hb : (n : Nat) = b) (hn : b < nL) (hl' : g_s1 lv b (.ref x) = lv') (k : gV X w kc ks Q nL (pc + 1) lv' st μ) : gV X w kc ks Q nL pc lv (.ref x :: st) μ := fun H locs ls hP hD hS hl => lv_astore_n C.1 rfl (g_at C i hd) hb hl hn (g_s1m lv b (.ref x)) (fun ls' hl2 => k H locs ls' hP hD hS (by rw [← hl']; exact hl2))
theorem v_astore (C : gC X w K nL own d) (i : Nat) {b : Nat} {x : Nat} (hd : K[i]? = some (pc, .astore b, 2)) (hn : b < nL) (hl' : g_s1 lv b (.ref x) = lv') (k : gV X w kc ks Q nL (pc + 2) lv' st μ) : gV X w kc ks Q nL pc lv (.ref x :: st) μ := fun H locs ls hP hD hS hl => lv_astore C.1 rfl (g_at C i hd) hl hn (g_s1m lv b (.ref x)) (fun ls' hl2 => k H locs ls' hP hD hS (by rw [← hl']; exact hl2))
theorem v_iinc (C : gC X w K nL own d) (i j : Nat) {b : Nat} {n : Int} {x : Int32} (v : Int32) (hd : K[i]? = some (pc, .iinc b n, 3)) (hj : lv[j]? = some (b, .int x)) (hv : x + Int32.ofInt n = v) (hn : b < nL) (hl' : g_s1 lv b (.int v) = lv') (k : gV X w kc ks Q nL (pc + 3) lv' st μ) : gV X w kc ks Q nL pc lv st μ := fun H locs ls hP hD hS hl => lv_iinc C.1 rfl (g_at C i hd) hl (k := j) (by rw [List.getElem?_map, hj]; rfl) hv hn (g_s1m lv b (.int v)) (fun ls' hl2 => k H locs ls' hP hD hS (by rw [← hl']; exact hl2))
theorem v_dup (C : gC X w K nL own d) (i : Nat) {v : Value} (hd : K[i]? = some (pc, .dup, 1)) (hv : v.category = 1) (k : gV X w kc ks Q nL (pc + 1) lv (v :: v :: st) μ) : gV X w kc ks Q nL pc lv (v :: st) μ := fun H locs ls hP hD hS hl => lv_dup C.1 rfl (g_at C i hd) ((tv_cat _ v).trans hv) (k H locs ls hP hD hS hl)
theorem v_dup2 (C : gC X w K nL own d) (i : Nat) {v u : Value} (hd : K[i]? = some (pc, .dup2, 1)) (hv : v.category = 1) (hu : u.category = 1) (k : gV X w kc ks Q nL (pc + 1) lv (v :: u :: v :: u :: st) μ) : gV X w kc ks Q nL pc lv (v :: u :: st) μ := fun H locs ls hP hD hS hl => lv_dup2_11 C.1 rfl (g_at C i hd) ((tv_cat _ v).trans hv) ((tv_cat _ u).trans hu) (k H locs ls hP hD hS hl)
theorem v_pop (C : gC X w K nL own d) (i : Nat) {v : Value} (hd : K[i]? = some (pc, .pop, 1)) (hv : v.category = 1) (k : gV X w kc ks Q nL (pc + 1) lv st μ) : gV X w kc ks Q nL pc lv (v :: st) μ := fun H locs ls hP hD hS hl => lv_pop C.1 rfl (g_at C i hd) ((tv_cat _ v).trans hv) (k H locs ls hP hD hS hl)
theorem v_if_eq (C : gC X w K nL own d) (i tgt : Nat) {x : Int32} {off : Int} (hd : K[i]? = some (pc, .ifCond .eq off, 3)) (ht : (pc : Int) + off = (tgt : Int)) (k1 : (x = 0) → gV X w kc ks Q nL tgt lv st μ) (k2 : ¬ (x = 0) → gV X w kc ks Q nL (pc + 3) lv st μ) : gV X w kc ks Q nL pc lv (.int x :: st) μ := fun H locs ls hP hD hS hl => lv_if_eq C.1 rfl (g_at C i hd) ht (fun q => k1 q H locs ls hP hD hS hl) (fun q => k2 q H locs ls hP hD hS hl)
theorem v_icmp_eq (C : gC X w K nL own d) (i tgt : Nat) {x y : Int32} {off : Int} (hd : K[i]? = some (pc, .if_icmp .eq off, 3)) (ht : (pc : Int) + off = (tgt : Int)) (k1 : (x = y) → gV X w kc ks Q nL tgt lv st μ) (k2 : ¬ (x = y) → gV X w kc ks Q nL (pc + 3) lv st μ) : gV X w kc ks Q nL pc lv (.int y :: .int x :: st) μ := fun H locs ls hP hD hS hl => lv_icmp_eq C.1 rfl (g_at C i hd) ht (fun q => k1 q H locs ls hP hD hS hl) (fun q => k2 q H locs ls hP hD hS hl)
theorem v_if_ne (C : gC X w K nL own d) (i tgt : Nat) {x : Int32} {off : Int} (hd : K[i]? = some (pc, .ifCond .ne off, 3)) (ht : (pc : Int) + off = (tgt : Int)) (k1 : ¬ (x = 0) → gV X w kc ks Q nL tgt lv st μ) (k2 : (x = 0) → gV X w kc ks Q nL (pc + 3) lv st μ) : gV X w kc ks Q nL pc lv (.int x :: st) μ := fun H locs ls hP hD hS hl => lv_if_ne C.1 rfl (g_at C i hd) ht (fun q => k1 q H locs ls hP hD hS hl) (fun q => k2 q H locs ls hP hD hS hl)
theorem v_icmp_ne (C : gC X w K nL own d) (i tgt : Nat) {x y : Int32} {off : Int} (hd : K[i]? = some (pc, .if_icmp .ne off, 3)) (ht : (pc : Int) + off = (tgt : Int)) (k1 : ¬ (x = y) → gV X w kc ks Q nL tgt lv st μ) (k2 : (x = y) → gV X w kc ks Q nL (pc + 3) lv st μ) : gV X w kc ks Q nL pc lv (.int y :: .int x :: st) μ := fun H locs ls hP hD hS hl => lv_icmp_ne C.1 rfl (g_at C i hd) ht (fun q => k1 q H locs ls hP hD hS hl) (fun q => k2 q H locs ls hP hD hS hl)
theorem v_if_lt (C : gC X w K nL own d) (i tgt : Nat) {x : Int32} {off : Int} (hd : K[i]? = some (pc, .ifCond .lt off, 3)) (ht : (pc : Int) + off = (tgt : Int)) (k1 : (x < 0) → gV X w kc ks Q nL tgt lv st μ) (k2 : ¬ (x < 0) → gV X w kc ks Q nL (pc + 3) lv st μ) : gV X w kc ks Q nL pc lv (.int x :: st) μ := fun H locs ls hP hD hS hl => lv_if_lt C.1 rfl (g_at C i hd) ht (fun q => k1 q H locs ls hP hD hS hl) (fun q => k2 q H locs ls hP hD hS hl)
theorem v_icmp_lt (C : gC X w K nL own d) (i tgt : Nat) {x y : Int32} {off : Int} (hd : K[i]? = some (pc, .if_icmp .lt off, 3)) (ht : (pc : Int) + off = (tgt : Int)) (k1 : (x < y) → gV X w kc ks Q nL tgt lv st μ) (k2 : ¬ (x < y) → gV X w kc ks Q nL (pc + 3) lv st μ) : gV X w kc ks Q nL pc lv (.int y :: .int x :: st) μ := fun H locs ls hP hD hS hl => lv_icmp_lt C.1 rfl (g_at C i hd) ht (fun q => k1 q H locs ls hP hD hS hl) (fun q => k2 q H locs ls hP hD hS hl)
theorem v_if_ge (C : gC X w K nL own d) (i tgt : Nat) {x : Int32} {off : Int} (hd : K[i]? = some (pc, .ifCond .ge off, 3)) (ht : (pc : Int) + off = (tgt : Int)) (k1 : (0 ≤ x) → gV X w kc ks Q nL tgt lv st μ) (k2 : ¬ (0 ≤ x) → gV X w kc ks Q nL (pc + 3) lv st μ) : gV X w kc ks Q nL pc lv (.int x :: st) μ := fun H locs ls hP hD hS hl => lv_if_ge C.1 rfl (g_at C i hd) ht (fun q => k1 q H locs ls hP hD hS hl) (fun q => k2 q H locs ls hP hD hS hl)
theorem v_icmp_ge (C : gC X w K nL own d) (i tgt : Nat) {x y : Int32} {off : Int} (hd : K[i]? = some (pc, .if_icmp .ge off, 3)) (ht : (pc : Int) + off = (tgt : Int)) (k1 : (y ≤ x) → gV X w kc ks Q nL tgt lv st μ) (k2 : ¬ (y ≤ x) → gV X w kc ks Q nL (pc + 3) lv st μ) : gV X w kc ks Q nL pc lv (.int y :: .int x :: st) μ := fun H locs ls hP hD hS hl => lv_icmp_ge C.1 rfl (g_at C i hd) ht (fun q => k1 q H locs ls hP hD hS hl) (fun q => k2 q H locs ls hP hD hS hl)
theorem v_if_gt (C : gC X w K nL own d) (i tgt : Nat) {x : Int32} {off : Int} (hd : K[i]? = some (pc, .ifCond .gt off, 3)) (ht : (pc : Int) + off = (tgt : Int)) (k1 : (0 < x) → gV X w kc ks Q nL tgt lv st μ) (k2 : ¬ (0 < x) → gV X w kc ks Q nL (pc + 3) lv st μ) : gV X w kc ks Q nL pc lv (.int x :: st) μ := fun H locs ls hP hD hS hl => lv_if_gt C.1 rfl (g_at C i hd) ht (fun q => k1 q H locs ls hP hD hS hl) (fun q => k2 q H locs ls hP hD hS hl)
theorem v_icmp_gt (C : gC X w K nL own d) (i tgt : Nat) {x y : Int32} {off : Int} (hd : K[i]? = some (pc, .if_icmp .gt off, 3)) (ht : (pc : Int) + off = (tgt : Int)) (k1 : (y < x) → gV X w kc ks Q nL tgt lv st μ) (k2 : ¬ (y < x) → gV X w kc ks Q nL (pc + 3) lv st μ) : gV X w kc ks Q nL pc lv (.int y :: .int x :: st) μ := fun H locs ls hP hD hS hl => lv_icmp_gt C.1 rfl (g_at C i hd) ht (fun q => k1 q H locs ls hP hD hS hl) (fun q => k2 q H locs ls hP hD hS hl)
theorem v_if_le (C : gC X w K nL own d) (i tgt : Nat) {x : Int32} {off : Int} (hd : K[i]? = some (pc, .ifCond .le off, 3)) (ht : (pc : Int) + off = (tgt : Int)) (k1 : (x ≤ 0) → gV X w kc ks Q nL tgt lv st μ) (k2 : ¬ (x ≤ 0) → gV X w kc ks Q nL (pc + 3) lv st μ) : gV X w kc ks Q nL pc lv (.int x :: st) μ := fun H locs ls hP hD hS hl => lv_if_le C.1 rfl (g_at C i hd) ht (fun q => k1 q H locs ls hP hD hS hl) (fun q => k2 q H locs ls hP hD hS hl)
theorem v_icmp_le (C : gC X w K nL own d) (i tgt : Nat) {x y : Int32} {off : Int} (hd : K[i]? = some (pc, .if_icmp .le off, 3)) (ht : (pc : Int) + off = (tgt : Int)) (k1 : (x ≤ y) → gV X w kc ks Q nL tgt lv st μ) (k2 : ¬ (x ≤ y) → gV X w kc ks Q nL (pc + 3) lv st μ) : gV X w kc ks Q nL pc lv (.int y :: .int x :: st) μ := fun H locs ls hP hD hS hl => lv_icmp_le C.1 rfl (g_at C i hd) ht (fun q => k1 q H locs ls hP hD hS hl) (fun q => k2 q H locs ls hP hD hS hl)
theorem v_goto (C : gC X w K nL own d) (i tgt : Nat) {off : Int} (hd : K[i]? = some (pc, .goto off, 3)) (ht : (pc : Int) + off = (tgt : Int)) (k : gV X w kc ks Q nL tgt lv st μ) : gV X w kc ks Q nL pc lv st μ := fun H locs ls hP hD hS hl => lv_goto C.1 rfl (g_at C i hd) ht (k H locs ls hP hD hS hl)
theorem g_cmp0 {x y : Int64} : lg_cmp x y = 0 ↔ x = y := by
  unfold lg_cmp
  by_cases h1 : y < x
  · rw [if_pos h1]
    refine ⟨fun h => absurd h (by decide), fun h => ?_⟩
    rw [h] at h1
    exact absurd h1 (Int64.lt_irrefl)
  · rw [if_neg h1]
    by_cases h2 : x = y
    · rw [if_pos h2]
      exact ⟨fun _ => h2, fun _ => rfl⟩
    · rw [if_neg h2]
      exact ⟨fun h => absurd h (by decide), fun h => absurd h h2⟩
theorem v_lcmp (C : gC X w K nL own d) (i : Nat) {x y : Int64} (hd : K[i]? = some (pc, .lcmp, 1)) (k : gV X w kc ks Q nL (pc + 1) lv (.int (lg_cmp x y) :: st) μ) : gV X w kc ks Q nL pc lv (.long y :: .long x :: st) μ := fun H locs ls hP hD hS hl => W.lcmp C.1 rfl (g_at C i hd) (k H locs ls hP hD hS hl)
theorem v_lif_eq (C : gC X w K nL own d) (i tgt : Nat) {x y : Int64} {off : Int} (hd : K[i]? = some (pc, .ifCond .eq off, 3)) (ht : (pc : Int) + off = (tgt : Int)) (k1 : (x = y) → gV X w kc ks Q nL tgt lv st μ) (k2 : ¬ (x = y) → gV X w kc ks Q nL (pc + 3) lv st μ) : gV X w kc ks Q nL pc lv (.int (lg_cmp x y) :: st) μ := v_if_eq C i tgt hd ht (fun q => k1 (g_cmp0.mp q)) (fun q => k2 (fun z => q (g_cmp0.mpr z)))
theorem v_lif_ne (C : gC X w K nL own d) (i tgt : Nat) {x y : Int64} {off : Int} (hd : K[i]? = some (pc, .ifCond .ne off, 3)) (ht : (pc : Int) + off = (tgt : Int)) (k1 : ¬ (x = y) → gV X w kc ks Q nL tgt lv st μ) (k2 : (x = y) → gV X w kc ks Q nL (pc + 3) lv st μ) : gV X w kc ks Q nL pc lv (.int (lg_cmp x y) :: st) μ := v_if_ne C i tgt hd ht (fun q => k1 (fun z => q (g_cmp0.mpr z))) (fun q => k2 (g_cmp0.mp q))
theorem v_lookup (C : gC X w K nL own d) (i tgt : Nat) {dflt off : Int} {ps : Array (Int × Int)} {len : Nat} {x : Int32} (hd : K[i]? = some (pc, .lookupswitch dflt ps, len)) (hp : (ps.toList.zip (ps.toList.drop 1)).all (fun (a, next) => a.1 < next.1) = true) (ho : Op.lookupswitch.offset ps.toList dflt x.toInt = off) (ht : (pc : Int) + off = (tgt : Int)) (k : gV X w kc ks Q nL tgt lv st μ) : gV X w kc ks Q nL pc lv (.int x :: st) μ := fun H locs ls hP hD hS hl => lv_lookup C.1 rfl (g_at C i hd) hp ho ht (k H locs ls hP hD hS hl)
theorem v_tableOut (C : gC X w K nL own d) (i tgt : Nat) {dflt lo hi : Int} {offs : Array Int} {len : Nat} {x : Int32} (hd : K[i]? = some (pc, .tableswitch dflt lo hi offs, len)) (h : x.toInt < lo ∨ hi < x.toInt) (ht : (pc : Int) + dflt = (tgt : Int)) (k : gV X w kc ks Q nL tgt lv st μ) : gV X w kc ks Q nL pc lv (.int x :: st) μ := fun H locs ls hP hD hS hl => lv_tableOut C.1 rfl (g_at C i hd) h ht (k H locs ls hP hD hS hl)
theorem v_tableIn (C : gC X w K nL own d) (i tgt : Nat) {dflt lo hi off : Int} {offs : Array Int} {len : Nat} {x : Int32} (hd : K[i]? = some (pc, .tableswitch dflt lo hi offs, len)) (h1 : ¬ x.toInt < lo) (h2 : ¬ hi < x.toInt) (ho : offs[(x.toInt - lo).toNat]? = some off) (ht : (pc : Int) + off = (tgt : Int)) (k : gV X w kc ks Q nL tgt lv st μ) : gV X w kc ks Q nL pc lv (.int x :: st) μ := fun H locs ls hP hD hS hl => lv_tableIn C.1 rfl (g_at C i hd) h1 h2 ho ht (k H locs ls hP hD hS hl)
theorem v_ldc (C : gC X w K nL own d) (i : Nat) {idx : Nat} {v : Int32} (hd : K[i]? = some (pc, .ldc idx, 2)) (hc : Cond.constant own idx v ∈ gTb) (k : gV X w kc ks Q nL (pc + 2) lv (.int v :: st) μ) : gV X w kc ks Q nL pc lv st μ := fun H locs ls hP hD hS hl => lv_ldc C.1 rfl C.2.2.2.1 (C.2.2.2.2.1 _ hc) (g_at C i hd) (k H locs ls hP hD hS hl)
theorem v_ldc2 (C : gC X w K nL own d) (i : Nat) {idx : Nat} {v : Int64} (hd : K[i]? = some (pc, .ldc2_w idx, 3)) (hc : Cond.constantLong own idx v ∈ gTb) (k : gV X w kc ks Q nL (pc + 3) lv (.long v :: st) μ) : gV X w kc ks Q nL pc lv st μ := fun H locs ls hP hD hS hl => lv_ldc2 C.1 rfl C.2.2.2.1 (C.2.2.2.2.1 _ hc) (g_at C i hd) (k H locs ls hP hD hS hl)
end GV
end
section
/-! FIELDS, ARRAYS, CALLS, RETURNS over the flat memory -/
def gCls (ci : Nat) (Cn : String) (T : u_T) (N : Nat) : Prop := vwCl[ci]? = some (Cn, T, N) ∧ N = gN ci ∧ (∀ x ∈ u_ws Cn T N, x ∈ gTb) ∧ (∀ k, k < N → parseFieldDescriptor (T k).2.2.1 = some (gT ci k)) ∧ (∀ a, a < N → ∀ b, b < N → a ≠ b → (T a).2.1 ≠ (T b).2.1)
/-- entry idx of own's pool is place j of class ci -/
def gF (own : String) (idx ci j : Nat) : Prop := ∃ (Cn : String) (T : u_T) (N : Nat), gCls ci Cn T N ∧ j < N ∧ (Cond.fieldLink own idx (T j).1 (T j).2.1 (T j).2.2.1 ∈ gTb ∨ ∃ host, Cond.fieldLinkNest own idx (T j).1 (T j).2.1 (T j).2.2.1 host ∈ gNb)
/-- the same, and the place isn't final -/
def gFw (own : String) (idx ci j : Nat) : Prop := ∃ (Cn : String) (T : u_T) (N : Nat), gCls ci Cn T N ∧ j < N ∧ (T j).2.2.2 = false ∧ (Cond.fieldLink own idx (T j).1 (T j).2.1 (T j).2.2.1 ∈ gTb ∨ ∃ host, Cond.fieldLinkNest own idx (T j).1 (T j).2.1 (T j).2.2.1 host ∈ gNb)
theorem gFw.get {own : String} {idx ci j : Nat} (h : gFw own idx ci j) : gF own idx ci j := by
  obtain ⟨Cn, T, N, h1, h2, -, h3⟩ := h
  exact ⟨Cn, T, N, h1, h2, h3⟩
theorem g_nest {w : Cond} (h : w ∈ gNb) : w.onTables = true := by
  have h1 := (List.mem_filter.mp h).2
  cases w <;> first | rfl | (simp [g_isN] at h1)
def gIt : FieldType → Bool
  | .int => true
  | .boolean => true
  | .byte => true
  | _ => false
def gRt : FieldType → Bool
  | .object _ => true
  | .array _ => true
  | _ => false
theorem g_fvI {ad : Nat → Nat} {μ : gM} {k j : Nat} {ty : FieldType} (h : gIt ty = true) : g_fv ad μ k j ty = .int (μ.1 k j) := by cases ty <;> first | rfl | (simp [gIt] at h)
theorem g_fvR {ad : Nat → Nat} {μ : gM} {k j t : Nat} {ty : FieldType} (h : gRt ty = true) (hr : μ.2.2 k j = some t) : g_fv ad μ k j ty = .ref (ad t) := by cases ty <;> first | (simp [g_fv, hr, va_rf]; done) | (simp [gRt] at h)
section GH
variable {X : gX} {w : gW} {K : gK} {kc ks nL pc d : Nat} {own : String} {Q : State → Prop} {lv lv' : List (Nat × Value)} {st : List Value} {μ : gM}
theorem v_getV (C : gC X w K nL own d) (i : Nat) {idx ci j k : Nat} (hd : K[i]? = some (pc, .getfield idx, 3)) (F : gF own idx ci j) (hs : w.2.2.2.2.1[k]? = some (.inl ci)) {v : Value} (hv : g_fv w.2.2.1 μ k j (gT ci j) = tv w.2.2.1 v) (kk : gV X w kc ks Q nL (pc + 3) lv (v :: st) μ) : gV X w kc ks Q nL pc lv (.ref k :: st) μ := by
  intro H locs ls hP hD hS hl
  obtain ⟨Cn, T, N, ⟨c1, c2, c3, c4, c5⟩, hj, hk⟩ := F
  subst c2
  have hv' : ((List.range (gN ci)).map (fun j => g_fv w.2.2.1 μ k j (gT ci j)))[j]? = some (tv w.2.2.1 v) := by
    simp [hj, hv]
  rcases hk with hk | ⟨host, hk⟩
  · exact va_get C.1 rfl C.2.2.2.2.1 c3 C.2.2.2.1 C.2.2.2.2.2.2.1 hP k (g_wl_at hs) c1 j hj (C.2.2.2.2.1 _ hk) (fun _ h => h) hv' (g_at C i hd) (kk H locs ls hP hD hS hl)
  · exact va_getN C.1 rfl C.2.2.2.2.1 c3 C.2.2.2.1 C.2.2.2.2.2.2.1 hP k (g_wl_at hs) c1 j hj ((C.2.2.2.2.2.1 _ hk).use (g_nest hk)) (fun _ h => h) hv' (g_at C i hd) (kk H locs ls hP hD hS hl)
theorem v_getI (C : gC X w K nL own d) (i : Nat) {idx ci j k : Nat} (hd : K[i]? = some (pc, .getfield idx, 3)) (F : gF own idx ci j) (hs : w.2.2.2.2.1[k]? = some (.inl ci)) (ht : gIt (gT ci j) = true) (kk : gV X w kc ks Q nL (pc + 3) lv (.int (μ.1 k j) :: st) μ) : gV X w kc ks Q nL pc lv (.ref k :: st) μ := v_getV C i hd F hs (v := .int (μ.1 k j)) (g_fvI ht) kk
theorem v_getL (C : gC X w K nL own d) (i : Nat) {idx ci j k : Nat} (hd : K[i]? = some (pc, .getfield idx, 3)) (F : gF own idx ci j) (hs : w.2.2.2.2.1[k]? = some (.inl ci)) (ht : gT ci j = .long) (kk : gV X w kc ks Q nL (pc + 3) lv (.long (μ.2.1 k j) :: st) μ) : gV X w kc ks Q nL pc lv (.ref k :: st) μ := v_getV C i hd F hs (v := .long (μ.2.1 k j)) (by rw [ht]; rfl) kk
theorem v_getR (C : gC X w K nL own d) (i : Nat) {idx ci j k t : Nat} (hd : K[i]? = some (pc, .getfield idx, 3)) (F : gF own idx ci j) (hs : w.2.2.2.2.1[k]? = some (.inl ci)) (ht : gRt (gT ci j) = true) (hr : μ.2.2 k j = some t) (kk : gV X w kc ks Q nL (pc + 3) lv (.ref t :: st) μ) : gV X w kc ks Q nL pc lv (.ref k :: st) μ := v_getV C i hd F hs (v := .ref t) (g_fvR ht hr) kk
theorem v_putV (C : gC X w K nL own d) (i : Nat) {idx ci j k : Nat} {μ' : gM} {v : Value} (hd : K[i]? = some (pc, .putfield idx, 3)) (F : gFw own idx ci j) (hs : w.2.2.2.2.1[k]? = some (.inl ci)) (hn : narrow (gT ci j) (tv w.2.2.1 v) = tv w.2.2.1 v) (hf : fits (gT ci j) (tv w.2.2.1 v) = true)
    (he : ∀ N, N = gN ci → j < N → ((List.range (gN ci)).map (fun j => g_fv w.2.2.1 μ k j (gT ci j))).set j (tv w.2.2.1 v) = (List.range (gN ci)).map (fun j => g_fv w.2.2.1 μ' k j (gT ci j))) (ho : ∀ j, j ≠ k → ∀ y, g_ce w.2.2.1 w.2.1 μ' j y = g_ce w.2.2.1 w.2.1 μ j y)
    (kk : gV X w kc ks Q nL (pc + 3) lv st μ') : gV X w kc ks Q nL pc lv (v :: .ref k :: st) μ := by
  intro H locs ls hP hD hS hl
  obtain ⟨Cn, T, N, ⟨c1, c2, c3, c4, c5⟩, hj, hfin, hk⟩ := F
  have he' := he N c2 hj
  subst c2
  have hset : (gwl w μ).set k (w.2.2.1 k, .inr (ci, ((List.range (gN ci)).map (fun j => g_fv w.2.2.1 μ k j (gT ci j))).set j (tv w.2.2.1 v))) = gwl w μ' := by
    rw [he']
    exact g_wl_set hs rfl ho
  have hlen : j < ((List.range (gN ci)).map (fun j => g_fv w.2.2.1 μ k j (gT ci j))).length := by simpa using hj
  rcases hk with hk | ⟨host, hk⟩
  · refine va_put C.1 rfl C.2.2.2.2.1 c3 (gT ci) c4 c5 C.2.2.2.1 C.2.2.2.2.2.2.1 hP hD hS k (g_wl_at hs) c1 j hj (C.2.2.2.2.1 _ hk) (fun _ h => h) hfin (c4 j hj) hn hf hlen (g_at C i hd) (fun H1 locs1 hP1 hD1 hS1 => ?_)
    exact kk H1 locs1 ls (hset ▸ hP1) (hset ▸ hD1) hS1 hl
  · refine va_putN C.1 rfl C.2.2.2.2.1 c3 (gT ci) c4 c5 C.2.2.2.1 C.2.2.2.2.2.2.1 hP hD hS k (g_wl_at hs) c1 j hj ((C.2.2.2.2.2.1 _ hk).use (g_nest hk)) (fun _ h => h) hfin (c4 j hj) hn hf hlen (g_at C i hd) (fun H1 locs1 hP1 hD1 hS1 => ?_)
    exact kk H1 locs1 ls (hset ▸ hP1) (hset ▸ hD1) hS1 hl
theorem v_putI (C : gC X w K nL own d) (i : Nat) {idx ci j k : Nat} {v : Int32} (hd : K[i]? = some (pc, .putfield idx, 3)) (F : gFw own idx ci j) (hs : w.2.2.2.2.1[k]? = some (.inl ci)) (ht : gT ci j = .int) (kk : gV X w kc ks Q nL (pc + 3) lv st (gsI μ k j v)) : gV X w kc ks Q nL pc lv (.int v :: .ref k :: st) μ :=
  v_putV C i hd F hs (v := .int v) (by rw [ht]; rfl) (by rw [ht]; rfl) (fun N hN hj => g_fsI (hN ▸ hj) (by rw [ht]; simp [g_fv, gsI])) g_oI kk
theorem v_putZ (C : gC X w K nL own d) (i : Nat) {idx ci j k : Nat} {v : Int32} (hd : K[i]? = some (pc, .putfield idx, 3)) (F : gFw own idx ci j) (hs : w.2.2.2.2.1[k]? = some (.inl ci)) (ht : gT ci j = .boolean) (h01 : v = 0 ∨ v = 1) (kk : gV X w kc ks Q nL (pc + 3) lv st (gsI μ k j v)) : gV X w kc ks Q nL pc lv (.int v :: .ref k :: st) μ :=
  v_putV C i hd F hs (v := .int v) (by rw [ht]; rcases h01 with rfl | rfl; exact (by decide +kernel : narrow FieldType.boolean (Value.int 0) = Value.int 0); exact (by decide +kernel : narrow FieldType.boolean (Value.int 1) = Value.int 1)) (by rw [ht]; rcases h01 with rfl | rfl; exact (by decide +kernel : fits FieldType.boolean (Value.int 0) = true); exact (by decide +kernel : fits FieldType.boolean (Value.int 1) = true)) (fun N hN hj => g_fsI (hN ▸ hj) (by rw [ht]; simp [g_fv, gsI])) g_oI kk
theorem v_putL (C : gC X w K nL own d) (i : Nat) {idx ci j k : Nat} {v : Int64} (hd : K[i]? = some (pc, .putfield idx, 3)) (F : gFw own idx ci j) (hs : w.2.2.2.2.1[k]? = some (.inl ci)) (ht : gT ci j = .long) (kk : gV X w kc ks Q nL (pc + 3) lv st (gsL μ k j v)) : gV X w kc ks Q nL pc lv (.long v :: .ref k :: st) μ :=
  v_putV C i hd F hs (v := .long v) (by rw [ht]; rfl) (by rw [ht]; rfl) (fun N hN hj => g_fsL (hN ▸ hj) (by rw [ht]; simp [g_fv, gsL])) g_oL kk
theorem v_putR (C : gC X w K nL own d) (i : Nat) {idx ci j k t : Nat} (hd : K[i]? = some (pc, .putfield idx, 3)) (F : gFw own idx ci j) (hs : w.2.2.2.2.1[k]? = some (.inl ci)) (ht : gRt (gT ci j) = true) (kk : gV X w kc ks Q nL (pc + 3) lv st (gsR μ k j (some t))) : gV X w kc ks Q nL pc lv (.ref t :: .ref k :: st) μ := by
  have h1 : narrow (gT ci j) (.ref (w.2.2.1 t)) = .ref (w.2.2.1 t) := by revert ht; cases gT ci j <;> intro ht <;> first | rfl | (simp [gRt] at ht)
  have h2 : fits (gT ci j) (.ref (w.2.2.1 t)) = true := by revert ht; cases gT ci j <;> intro ht <;> first | rfl | (simp [gRt] at ht)
  exact v_putV C i hd F hs (v := .ref t) h1 h2 (fun N hN hj => g_fsR (hN ▸ hj) (g_fvR ht (by simp [gsR]))) g_oR kk
/-! arrays -/
theorem g_tyI (cA : FieldType → ClassId) : (g_tys cA)[0]? = some (cA .int, .int) := rfl
theorem v_iald (C : gC X w K nL own d) (i : Nat) {k n : Nat} {x : Int32} (hd : K[i]? = some (pc, .iaload, 1)) (hs : w.2.2.2.2.1[k]? = some (.inr (.int, n))) (hin : vp_in x n) (kk : gV X w kc ks Q nL (pc + 1) lv (.int (μ.1 k x.toNatClampNeg) :: st) μ) : gV X w kc ks Q nL pc lv (.int x :: .ref k :: st) μ := fun H locs ls hP hD hS hl =>
  va_iald C.1 rfl C.2.2.2.2.2.2.1 hP k 0 (g_wl_at hs) rfl hin (g_at C i hd) (kk H locs ls hP hD hS hl)
theorem v_bald (C : gC X w K nL own d) (i : Nat) {k n : Nat} {x : Int32} (hd : K[i]? = some (pc, .baload, 1)) (hs : w.2.2.2.2.1[k]? = some (.inr (.byte, n))) (hin : vp_in x n) (kk : gV X w kc ks Q nL (pc + 1) lv (.int (μ.1 k x.toNatClampNeg) :: st) μ) : gV X w kc ks Q nL pc lv (.int x :: .ref k :: st) μ := fun H locs ls hP hD hS hl =>
  va_bald C.1 rfl C.2.2.2.2.2.2.1 hP k 2 (g_wl_at hs) rfl hin (g_at C i hd) (kk H locs ls hP hD hS hl)
theorem v_zald (C : gC X w K nL own d) (i : Nat) {k n : Nat} {x : Int32} (hd : K[i]? = some (pc, .baload, 1)) (hs : w.2.2.2.2.1[k]? = some (.inr (.boolean, n))) (hin : vp_in x n) (kk : gV X w kc ks Q nL (pc + 1) lv (.int (μ.1 k x.toNatClampNeg) :: st) μ) : gV X w kc ks Q nL pc lv (.int x :: .ref k :: st) μ := fun H locs ls hP hD hS hl =>
  va_zald C.1 rfl C.2.2.2.2.2.2.1 hP k 3 (g_wl_at hs) rfl hin (g_at C i hd) (kk H locs ls hP hD hS hl)
theorem v_lald (C : gC X w K nL own d) (i : Nat) {k n : Nat} {x : Int32} (hd : K[i]? = some (pc, .laload, 1)) (hs : w.2.2.2.2.1[k]? = some (.inr (.long, n))) (hin : vp_in x n) (kk : gV X w kc ks Q nL (pc + 1) lv (.long (μ.2.1 k x.toNatClampNeg) :: st) μ) : gV X w kc ks Q nL pc lv (.int x :: .ref k :: st) μ := fun H locs ls hP hD hS hl =>
  va_lald C.1 rfl C.2.2.2.2.2.2.1 hP k 1 (g_wl_at hs) rfl hin (g_at C i hd) (kk H locs ls hP hD hS hl)
theorem v_alen (C : gC X w K nL own d) (i : Nat) {k n : Nat} {ty : FieldType} (v : Int32) (hd : K[i]? = some (pc, .arraylength, 1)) (hs : w.2.2.2.2.1[k]? = some (.inr (ty, n))) (ht : ty = .int ∨ ty = .byte) (hv : Int32.ofNat n = v) (kk : gV X w kc ks Q nL (pc + 1) lv (.int v :: st) μ) : gV X w kc ks Q nL pc lv (.ref k :: st) μ := fun H locs ls hP hD hS hl => by
  rcases ht with rfl | rfl
  · exact va_alen C.1 rfl C.2.2.2.2.2.2.1 hP k 0 (g_wl_at hs) rfl hv (g_at C i hd) (kk H locs ls hP hD hS hl)
  · exact va_alen C.1 rfl C.2.2.2.2.2.2.1 hP k 2 (g_wl_at hs) rfl hv (g_at C i hd) (kk H locs ls hP hD hS hl)
theorem g_upI {μ : gM} {k j : Nat} {v : Int32} : (gsI μ k j v).1 k = upd (μ.1 k) j v := by
  funext b
  simp [gsI, upd]
theorem g_upL {μ : gM} {k j : Nat} {v : Int64} : (gsL μ k j v).2.1 k = vp_updL (μ.2.1 k) j v := by
  funext b
  simp [gsL, vp_updL]
theorem v_iast (C : gC X w K nL own d) (i : Nat) {k n : Nat} {x v : Int32} (hd : K[i]? = some (pc, .iastore, 1)) (hs : w.2.2.2.2.1[k]? = some (.inr (.int, n))) (hin : vp_in x n) (kk : gV X w kc ks Q nL (pc + 1) lv st (gsI μ k x.toNatClampNeg v)) : gV X w kc ks Q nL pc lv (.int v :: .int x :: .ref k :: st) μ := fun H locs ls hP hD hS hl => by
  have hset : (gwl w μ).set k (w.2.2.1 k, .inl (w.2.1 .int, n, .inl (upd (μ.1 k) x.toNatClampNeg v))) = gwl w (gsI μ k x.toNatClampNeg v) := g_wl_set hs (by simp only [g_ce, g_ar, g_upI]) g_oI
  refine va_iast C.1 rfl C.2.2.2.2.2.2.1 hP hD hS k 0 (g_wl_at hs) rfl hin (g_at C i hd) (fun H1 locs1 hP1 hD1 hS1 => ?_)
  exact kk H1 locs1 ls (hset ▸ hP1) (hset ▸ hD1) hS1 hl
theorem v_bast (C : gC X w K nL own d) (i : Nat) {k n : Nat} {x v : Int32} (hd : K[i]? = some (pc, .bastore, 1)) (hs : w.2.2.2.2.1[k]? = some (.inr (.byte, n))) (hin : vp_in x n) (kk : gV X w kc ks Q nL (pc + 1) lv st (gsI μ k x.toNatClampNeg (vp_nar .byte v))) : gV X w kc ks Q nL pc lv (.int v :: .int x :: .ref k :: st) μ := fun H locs ls hP hD hS hl => by
  have hset : (gwl w μ).set k (w.2.2.1 k, .inl (w.2.1 .byte, n, .inl (upd (μ.1 k) x.toNatClampNeg (vp_nar .byte v)))) = gwl w (gsI μ k x.toNatClampNeg (vp_nar .byte v)) := g_wl_set hs (by simp only [g_ce, g_ar, g_upI]) g_oI
  refine va_bast C.1 rfl C.2.2.2.2.2.2.1 hP hD hS k 2 (g_wl_at hs) rfl hin (g_at C i hd) (fun H1 locs1 hP1 hD1 hS1 => ?_)
  exact kk H1 locs1 ls (hset ▸ hP1) (hset ▸ hD1) hS1 hl
theorem v_zast (C : gC X w K nL own d) (i : Nat) {k n : Nat} {x v : Int32} (hd : K[i]? = some (pc, .bastore, 1)) (hs : w.2.2.2.2.1[k]? = some (.inr (.boolean, n))) (hin : vp_in x n) (kk : gV X w kc ks Q nL (pc + 1) lv st (gsI μ k x.toNatClampNeg (vp_nar .boolean v))) : gV X w kc ks Q nL pc lv (.int v :: .int x :: .ref k :: st) μ := fun H locs ls hP hD hS hl => by
  have hset : (gwl w μ).set k (w.2.2.1 k, .inl (w.2.1 .boolean, n, .inl (upd (μ.1 k) x.toNatClampNeg (vp_nar .boolean v)))) = gwl w (gsI μ k x.toNatClampNeg (vp_nar .boolean v)) := g_wl_set hs (by simp only [g_ce, g_ar, g_upI]) g_oI
  refine va_zast C.1 rfl C.2.2.2.2.2.2.1 hP hD hS k 3 (g_wl_at hs) rfl hin (g_at C i hd) (fun H1 locs1 hP1 hD1 hS1 => ?_)
  exact kk H1 locs1 ls (hset ▸ hP1) (hset ▸ hD1) hS1 hl
theorem v_last (C : gC X w K nL own d) (i : Nat) {k n : Nat} {x : Int32} {v : Int64} (hd : K[i]? = some (pc, .lastore, 1)) (hs : w.2.2.2.2.1[k]? = some (.inr (.long, n))) (hin : vp_in x n) (kk : gV X w kc ks Q nL (pc + 1) lv st (gsL μ k x.toNatClampNeg v)) : gV X w kc ks Q nL pc lv (.long v :: .int x :: .ref k :: st) μ := fun H locs ls hP hD hS hl => by
  have hset : (gwl w μ).set k (w.2.2.1 k, .inl (w.2.1 .long, n, .inr (.inl (vp_updL (μ.2.1 k) x.toNatClampNeg v)))) = gwl w (gsL μ k x.toNatClampNeg v) := g_wl_set hs (by simp only [g_ce, g_ar, g_upL]) g_oL
  refine va_last C.1 rfl C.2.2.2.2.2.2.1 hP hD hS k 1 (g_wl_at hs) rfl hin (g_at C i hd) (fun H1 locs1 hP1 hD1 hS1 => ?_)
  exact kk H1 locs1 ls (hset ▸ hP1) (hset ▸ hD1) hS1 hl
end GH
end
section
/-! CONTRACTS: a method called on the arguments av over the memory μ returns r, and the memory is μ' then; it makes nothing -/
def g_rm (d : Nat) : Room := { frames := d, cells := 0, slots := 0, locals := 37 * d }
def gPc (w : gW) (av : List Value) (μ : gM) : Array Value → State → Prop := va_Pc (av.map (tv w.2.2.1)) (fun U => va_P w.1 vwCl (gwl w μ) U.heap ∧ va_D (gA w) (gwl w μ) ∧ va_K w.1 vwCl (g_tys w.2.1) U ∧ (∀ q ∈ gNb, va_Nw q U) ∧ w.2.2.2.2.2 U)
def gQ (w : gW) (r : Option Value) (μ' : gM) : Array Value → State → Outcome → State → Prop := fun _ s o t => o = .returned (r.map (tv w.2.2.1)) ∧ va_P w.1 vwCl (gwl w μ') t.heap ∧ va_F (gA w) s t
def gJok (w : gW) : Prop := ∀ u U : State, w.2.2.2.2.2 u → u.WarmedH U.vm → va_F (gA w) u U → w.2.2.2.2.2 U
def gMet (l : Launch) (d : Nat) (y : MethodName) (cc : ByteArray) (nL : Nat) (ret : Option FieldType) (w : gW) (av : List Value) (μ : gM) (r : Option Value) (μ' : gM) : Prop :=
  Met l y (.code y cc nL ret :: gTb) (g_rm d) (gPc w av μ) (gQ w r μ') 0 0 (gA w)
/-- a method's own words -/
def gMf (y : MethodName) (cc : ByteArray) (nL : Nat) (ret : Option FieldType) (n : Nat) : Prop := Cond.code y cc nL ret ∈ gTb ∧ Cond.initialized y.cls ∈ gTb ∧ y.cls ≠ "java/lang/invoke/MethodHandle" ∧ y.cls ≠ "java/lang/invoke/VarHandle" ∧ (parseMethodDescriptor y.desc).map (fun d => d.parameters.length) = some n ∧ plainName y.cls = true ∧ nL ≤ 18
theorem gGood {y : MethodName} {cc : ByteArray} {nL : Nat} {ret : Option FieldType} (h : Cond.code y cc nL ret ∈ gTb) : GoodIn gTb (.code y cc nL ret :: gTb) := by
  intro q hq
  have h1 : q ∈ gTb := by
    rcases List.mem_cons.mp hq with rfl | h1
    · exact h
    · exact h1
  exact ⟨h1, good_of_word (List.mem_filter.mp h1).2⟩
theorem g_blind {w : gW} {av : List Value} {μ : gM} (hJ : gJok w) : FrameBlind (gPc w av μ) := by
  intro a U g mk q
  obtain ⟨q0, q1, q2, q3, q4, q5⟩ := q
  exact ⟨q0, q1, q2, va_K.moved (u := U) (U := U.calling g mk a) (Vm.Alike.refl U.vm) q3, fun z hz => va_Nw.same (u := U) (U := U.calling g mk a) (g_nest hz) rfl (q4 z hz), hJ U _ q5 (State.WarmedH.refl U) ⟨Nat.le_refl _, fun _ _ _ => rfl⟩⟩
theorem g_lenmap {ad : Nat → Nat} {rest : List Value} : ((rest.map (tv ad)).map fun v => v.category).sum = (rest.map fun v => v.category).sum := by
  rw [List.map_map]
  congr 1
  apply List.map_congr_left
  intro v _
  exact tv_cat ad v
theorem g_nwarm {s U : State} (hW : s.WarmedH U.vm) (h : ∀ q ∈ gNb, va_Nw q s) : ∀ q ∈ gNb, va_Nw q U := by
  intro q hq
  have h1 := (List.mem_filter.mp hq).2
  have h2 := h q hq
  cases q <;> first | exact va_Nw.warmF hW h2 | exact va_Nw.warmM hW h2 | (simp [g_isN] at h1)
section GCALL
variable {X : gX} {w : gW} {K : gK} {kc ks nL pc d : Nat} {own : String} {Q : State → Prop} {lv lv' : List (Nat × Value)} {st : List Value} {μ : gM}
theorem g_pre (C : gC X w K nL own d) {av : List Value} {H : Heap} {locs : List Loc} (hP : va_P w.1 vwCl (gwl w μ) H) (hD : va_D (gA w) (gwl w μ)) (hS : va_S (gA w) X.2.2.2.2.1.heap H locs) : ∀ U : State, U.heap = H → X.2.2.2.2.1.WarmedH U.vm → gPc w av μ (av.map (tv w.2.2.1)).toArray U := by
  intro U hU hW
  exact ⟨rfl, by rw [hU]; exact hP, hD, va_K.moved hW.alike C.2.2.2.2.2.2.1, g_nwarm hW C.2.2.2.2.2.1, C.2.2.2.2.2.2.2.2.2.2.2 _ U C.2.2.2.2.2.2.2.2.2.2.1 hW (hS.F hU)⟩
/-- behind a call -/
theorem g_back {rest : List Value} {H : Heap} {locs : List Loc} {a : Array Value} {r : Option Value} {μ' : gM} {ls : Array Slot} {st0 : List Value} {mc ms : Nat}
    (hr : va_Run X.1 X.2.1 X.2.2.1 X.2.2.2.1 X.2.2.2.2.1 X.2.2.2.2.2.1 X.2.2.2.2.2.2.1 X.2.2.2.2.2.2.2.1 X.2.2.2.2.2.2.2.2.1 X.2.2.2.2.2.2.2.2.2 H locs kc ks mc ms (F0 X.2.2.2.2.2.1 pc ls st0) (rest.map (tv w.2.2.1)) (gQ w r μ' a) (gA w))
    (hD : va_D (gA w) (gwl w μ)) (hS : va_S (gA w) X.2.2.2.2.1.heap H locs) (hl : lv_has ls nL (lv.map (tvp w.2.2.1))) (kk : gV X w (kc + mc) (ks + ms) Q nL (pc + 3) lv (r.toList ++ rest) μ') :
    W X.1 X.2.1 X.2.2.1 X.2.2.2.1 X.2.2.2.2.1 X.2.2.2.2.2.1 X.2.2.2.2.2.2.1 X.2.2.2.2.2.2.2.1 X.2.2.2.2.2.2.2.2.1 X.2.2.2.2.2.2.2.2.2 H locs kc ks Q (F0 X.2.2.2.2.2.1 pc ls st0) := by
  intro T hT X1
  obtain ⟨v, s0, t, T', L, h0, X', hL, e1, e2, ⟨hv, hp, hz, hk⟩, hgo⟩ := hr T hT X1
  cases hv
  rw [h0] at hz hk
  have hD' : va_D (gA w) (gwl w μ') := by
    refine ⟨fun i j p q hi hj => ?_, fun k q hq => ?_⟩
    · have key : ∀ {m : gM} {i : Nat} {p : Nat × va_E}, (gwl w m)[i]? = some p → p.1 = w.2.2.1 i ∧ i < w.2.2.2.2.1.length := by
        intro m i p h
        have hlt : i < (gwl w m).length := (List.getElem?_eq_some_iff.mp h).1
        rw [gwl, g_wl_len] at hlt
        have h2 := g_wl_at (ad := w.2.2.1) (cA := w.2.1) (μ := m) (List.getElem?_eq_getElem hlt)
        rw [gwl, h2] at h
        cases h
        exact ⟨rfl, hlt⟩
      intro hpq
      obtain ⟨a1, a2⟩ := key hi
      obtain ⟨b1, b2⟩ := key hj
      exact hD.1 i j _ _ (g_wl_at (List.getElem?_eq_getElem a2)) (g_wl_at (List.getElem?_eq_getElem b2)) (by rw [a1, b1] at hpq; exact hpq)
    · have hlt : k < (gwl w μ').length := (List.getElem?_eq_some_iff.mp hq).1
      rw [gwl, g_wl_len] at hlt
      have h2 := g_wl_at (ad := w.2.2.1) (cA := w.2.1) (μ := μ') (List.getElem?_eq_getElem hlt)
      rw [gwl, h2] at hq
      cases hq
      exact hD.2 k (w.2.2.1 k, g_ce w.2.2.1 w.2.1 μ k _) (g_wl_at (List.getElem?_eq_getElem hlt))
  have hS' : va_S (gA w) X.2.2.2.2.1.heap T'.heap (locs ++ L) := ⟨Nat.le_trans hS.1 (by rw [e1]; exact hz), fun q h1 h2 => by rw [e1, hk q (Nat.lt_of_lt_of_le h1 hS.1) h2]; exact hS.2.1 q h1 h2, fun q hq => by
    rcases List.mem_append.mp hq with h | h
    · exact hS.2.2 q h
    · exact hL q h⟩
  have kk' := kk T'.heap (locs ++ L) ls (by rw [e1]; exact hp) hD' hS' hl
  have e3 : (r.toList ++ rest).map (tv w.2.2.1) = (r.map (tv w.2.2.1)).toList ++ rest.map (tv w.2.2.1) := by cases r <;> rfl
  rw [e3] at kk'
  obtain ⟨t2, a1, b1⟩ := kk' T' rfl X'
  exact ⟨t2, hgo t2 a1, b1⟩
theorem v_callV (C : gC X w K nL own d) (i : Nat) {idx d2 ci n nL2 b : Nat} {y : MethodName} {cc2 : ByteArray} {ret2 : Option FieldType} {av : List Value} {r : Option Value} {μ' : gM} {Cn : String} {T : u_T} {N : Nat} (hd : K[i]? = some (pc, .invokevirtual idx, 3))
    (F : gMf y cc2 nL2 ret2 n) (hcl : gCls ci Cn T N) (hC : y.cls = Cn) (hi : Cond.instanceMethod y ∈ gTb ∧ Cond.selects Cn y y ∈ gTb) (hk : Cond.methodLink own idx y ∈ gTb ∨ ∃ host, Cond.methodLinkNest own idx y host ∈ gNb) (hM : gMet X.2.1 d2 y cc2 nL2 ret2 w (.ref b :: av) μ r μ') (hd2 : d2 < d) (hn : av.length = n) (hs : w.2.2.2.2.1[b]? = some (.inl ci)) (hst : (st.map fun v => v.category).sum ≤ 8) (hroom : kc ≤ X.2.2.2.1.cells ∧ ks ≤ X.2.2.2.1.slots)
    {st0 : List Value} (h0 : st0 = av.reverse ++ .ref b :: st) (kk : gV X w kc ks Q nL (pc + 3) lv (r.toList ++ st) μ') : gV X w kc ks Q nL pc lv st0 μ := by
  intro H locs ls hP hD hS hl
  subst h0
  obtain ⟨f1, f2, f3, f4, f5, f6, f7⟩ := F
  obtain ⟨c1, -, -, -, -⟩ := hcl
  have hR : (g_rm d2).frames + 1 ≤ X.2.2.2.1.frames ∧ 8 + (nL2 + 11) + (g_rm d2).locals ≤ X.2.2.2.1.locals := by
    have a1 := C.2.2.2.2.2.2.2.2.1
    have a2 := C.2.2.2.2.2.2.2.2.2.1
    simp only [g_rm]
    omega
  have hp : PreV X.2.2.2.2.1 H Cn (w.2.2.1 b) (gPc w (.ref b :: av) μ) (av.map (tv w.2.2.1)) := ⟨g_blind C.2.2.2.2.2.2.2.2.2.2.2, va_recv (q0 := b) (q := (Cn, T, N)) C.2.2.2.2.2.2.1 hP c1 (g_wl_at hs), g_pre C hP hD hS⟩
  have hstack : (F0 X.2.2.2.2.2.1 pc ls ((av.reverse ++ .ref b :: st).map (tv w.2.2.1))).stack = (av.map (tv w.2.2.1)).reverse ++ .ref (w.2.2.1 b) :: st.map (tv w.2.2.1) := by
    simp [tv, List.map_reverse]
  have hW8 : 2 * (F0 X.2.2.2.2.2.1 pc ls ((av.reverse ++ .ref b :: st).map (tv w.2.2.1))).monitorRoom + ((st.map (tv w.2.2.1)).map fun v => v.category).sum ≤ 8 := lv_room (by rw [g_lenmap]; exact hst)
  rcases hk with hk | ⟨host, hk⟩
  · exact g_back (va_runV (C := Cn) (b := w.2.2.1 b) (n := n) ⟨C.1, rfl, C.2.2.1, C.2.2.2.1, C.2.2.2.2.1⟩ hM ⟨callB_of n C.2.2.2.2.1 (gGood f1) rfl rfl rfl (C.2.2.2.2.1 _ f2) (C.2.2.2.2.1 _ hk) ⟨f3, f4, f5⟩ hR, C.2.2.2.2.1 _ hi.1, C.2.2.2.2.1 _ hi.2⟩ hp rfl (by rw [List.length_map]; exact hn) hl.1 hstack hW8 (g_at C i hd) hroom) hD hS hl kk
  · exact g_back (va_runVN (C := Cn) (b := w.2.2.1 b) (n := n) ⟨C.1, rfl, C.2.2.1, C.2.2.2.1, C.2.2.2.2.1⟩ hM ⟨va_cnB n C.2.2.2.2.1 (gGood f1) rfl rfl rfl (C.2.2.2.2.2.1 _ hk) (C.2.2.2.2.1 _ f2) ⟨f3, f4, f5⟩ hR, C.2.2.2.2.1 _ hi.1, C.2.2.2.2.1 _ hi.2⟩ hp rfl (by rw [List.length_map]; exact hn) hl.1 hstack hW8 (g_at C i hd) hroom) hD hS hl kk
theorem v_callS (C : gC X w K nL own d) (i : Nat) {idx d2 n nL2 : Nat} {y : MethodName} {cc2 : ByteArray} {ret2 : Option FieldType} {av : List Value} {r : Option Value} {μ' : gM} (hd : K[i]? = some (pc, .invokestatic idx, 3))
    (F : gMf y cc2 nL2 ret2 n) (hi : Cond.static y ∈ gTb) (hk : Cond.methodLink own idx y ∈ gTb ∨ ∃ host, Cond.methodLinkNest own idx y host ∈ gNb) (hM : gMet X.2.1 d2 y cc2 nL2 ret2 w av μ r μ') (hd2 : d2 < d) (hn : av.length = n) (hst : (st.map fun v => v.category).sum ≤ 8) (hroom : kc ≤ X.2.2.2.1.cells ∧ ks ≤ X.2.2.2.1.slots)
    {st0 : List Value} (h0 : st0 = av.reverse ++ st) (kk : gV X w kc ks Q nL (pc + 3) lv (r.toList ++ st) μ') : gV X w kc ks Q nL pc lv st0 μ := by
  intro H locs ls hP hD hS hl
  subst h0
  obtain ⟨f1, f2, f3, f4, f5, f6, f7⟩ := F
  have hR : (g_rm d2).frames + 1 ≤ X.2.2.2.1.frames ∧ 8 + (nL2 + 11) + (g_rm d2).locals ≤ X.2.2.2.1.locals := by
    have a1 := C.2.2.2.2.2.2.2.2.1
    have a2 := C.2.2.2.2.2.2.2.2.2.1
    simp only [g_rm]
    omega
  have hp : PreS X.2.2.2.2.1 H (gPc w av μ) (av.map (tv w.2.2.1)) := ⟨g_blind C.2.2.2.2.2.2.2.2.2.2.2, g_pre C hP hD hS⟩
  have hstack : (F0 X.2.2.2.2.2.1 pc ls ((av.reverse ++ st).map (tv w.2.2.1))).stack = (av.map (tv w.2.2.1)).reverse ++ st.map (tv w.2.2.1) := by
    simp [List.map_reverse]
  have hW8 : 2 * (F0 X.2.2.2.2.2.1 pc ls ((av.reverse ++ st).map (tv w.2.2.1))).monitorRoom + ((st.map (tv w.2.2.1)).map fun v => v.category).sum ≤ 8 := lv_room (by rw [g_lenmap]; exact hst)
  rcases hk with hk | ⟨host, hk⟩
  · exact g_back (va_runS (n := n) ⟨C.1, rfl, C.2.2.1, C.2.2.2.1, C.2.2.2.2.1⟩ hM ⟨callB_of n C.2.2.2.2.1 (gGood f1) rfl rfl rfl (C.2.2.2.2.1 _ f2) (C.2.2.2.2.1 _ hk) ⟨f3, f4, f5⟩ hR, C.2.2.2.2.1 _ hi⟩ hp rfl (by rw [List.length_map]; exact hn) hl.1 hstack hW8 (g_at C i hd) hroom) hD hS hl kk
  · exact g_back (va_runSN (n := n) ⟨C.1, rfl, C.2.2.1, C.2.2.2.1, C.2.2.2.2.1⟩ hM ⟨va_cnB n C.2.2.2.2.1 (gGood f1) rfl rfl rfl (C.2.2.2.2.2.1 _ hk) (C.2.2.2.2.1 _ f2) ⟨f3, f4, f5⟩ hR, C.2.2.2.2.1 _ hi, trivial⟩ hp rfl (by rw [List.length_map]; exact hn) hl.1 hstack hW8 (g_at C i hd) hroom) hD hS hl kk
end GCALL
/-! returns -/
def gR (X : gX) (w : gW) (r : Option Value) (μ' : gM) : State → Prop := MQ X.2.2.2.2.2.2.2.1 (gQ w r μ') X.2.2.2.2.2.2.1 X.2.2.2.2.1 0 0 (gA w)
section GRET
variable {X : gX} {w : gW} {K : gK} {nL pc d : Nat} {own : String} {lv : List (Nat × Value)} {μ : gM}
theorem v_iret (C : gC X w K nL own d) (i : Nat) {v : Int32} (hd : K[i]? = some (pc, .ireturn, 1)) (hr : X.2.2.2.2.2.2.2.2.1.sig.returnType = some .int) : gV X w 0 0 (gR X w (some (.int v)) μ) nL pc lv [.int v] μ := fun H locs ls hP hD hS hl =>
  W.iret (v := v) C.1 rfl hr (fun t ht hW => ⟨rfl, by rw [ht]; exact hP, hS.F ht⟩) hS.2.2 (g_at C i hd) C.2.2.2.2.2.2.2.1
theorem v_zret (C : gC X w K nL own d) (i : Nat) {v : Int32} (hd : K[i]? = some (pc, .ireturn, 1)) (hr : X.2.2.2.2.2.2.2.2.1.sig.returnType = some .boolean) (h01 : v = 0 ∨ v = 1) : gV X w 0 0 (gR X w (some (.int v)) μ) nL pc lv [.int v] μ := fun H locs ls hP hD hS hl =>
  W.zret (v := v) (ty := .boolean) C.1 rfl hr (by rcases h01 with rfl | rfl <;> decide +kernel) (fun t ht hW => ⟨rfl, by rw [ht]; exact hP, hS.F ht⟩) hS.2.2 (g_at C i hd) C.2.2.2.2.2.2.2.1
theorem v_lret (C : gC X w K nL own d) (i : Nat) {v : Int64} (hd : K[i]? = some (pc, .lreturn, 1)) (hr : X.2.2.2.2.2.2.2.2.1.sig.returnType = some .long) : gV X w 0 0 (gR X w (some (.long v)) μ) nL pc lv [.long v] μ := fun H locs ls hP hD hS hl =>
  W.lret (v := v) C.1 rfl hr (fun t ht hW => ⟨rfl, by rw [ht]; exact hP, hS.F ht⟩) hS.2.2 (g_at C i hd) C.2.2.2.2.2.2.2.1
theorem v_vret (C : gC X w K nL own d) (i : Nat) (hd : K[i]? = some (pc, .return_, 1)) (hr : X.2.2.2.2.2.2.2.2.1.sig.returnType = none) : gV X w 0 0 (gR X w none μ) nL pc lv [] μ := fun H locs ls hP hD hS hl =>
  W.vret C.1 rfl hr (fun t ht hW => ⟨rfl, by rw [ht]; exact hP, hS.F ht⟩) hS.2.2 (g_at C i hd) C.2.2.2.2.2.2.2.1
end GRET
/-- a body gives a contract -/
theorem gMet.of {l : Launch} {d : Nat} {y : MethodName} {cc : ByteArray} {nL n : Nat} {ret : Option FieldType} {w : gW} {av : List Value} {μ : gM} {r : Option Value} {μ' : gM} {K : gK} (hJ : gJok w) (F : gMf y cc nL ret n) (hK : ∀ q ∈ K, decode cc q.1 = .ok q.2) (hav : (lg_sl (av.map (tv w.2.2.1))).length ≤ nL)
    (body : ∀ X : gX, X.2.1 = l → gC X w K nL y.cls d → X.2.2.2.2.2.2.2.2.1.sig.returnType = ret → gV X w 0 0 (gR X w r μ') nL 0 (lv_args 0 av) [] μ) : gMet l d y cc nL ret w av μ r μ' := by
  refine Met.ofW (cc := cc) (maxL := nL) (ret := ret) F.2.2.2.2.2.1 rfl ?_
  intro p e s m args below meth c s1 B hml hv
  obtain ⟨rfl, hP, hD, hKk, hN, hJs⟩ := hv
  have hts := atoms_spec (ws := Cond.code y cc nL ret :: gTb) B.pre
  have hb := B.bytes
  have hX := body (p, l, e, (headSpec (Cond.code y cc nL ret :: gTb) (g_rm d)).room, s, m, (av.map (tv w.2.2.1)).toArray, below, meth, c) rfl ⟨B.exec, by rw [hb]; exact hK, hml, findClass_of_methodNamed B.named, fun q hq => hts q (List.mem_cons_of_mem _ hq), hN, hKk, B.notSynchronized, Nat.le_refl _, Nat.le_refl _, hJs, hJ⟩ B.returns
  have hl := lv_entry (av.map (tv w.2.2.1)) (n := nL) hav
  rw [lg_entry_eq]
  have hla : lv_args 0 (av.map (tv w.2.2.1)) = (lv_args 0 av).map (tvp w.2.2.1) := by
    have key : ∀ (av : List Value) (i : Nat), lv_args i (av.map (tv w.2.2.1)) = (lv_args i av).map (tvp w.2.2.1) := by
      intro av
      induction av with
      | nil => intro i; rfl
      | cons v av ih =>
        intro i
        simp only [lv_args, List.map_cons, ih]
        cases v <;> rfl
    exact key av 0
  rw [hla] at hl
  exact hX s.heap [] _ hP hD va_S.rf hl
end
section
/-! FACTS of the tables, by their places in lw_tbl (written by program) -/
theorem g_tb (i : Nat) {q : Cond} (h : lw_tbl[i]? = some q) (hg : goodWord q = true) : q ∈ gTb := List.mem_filter.mpr ⟨List.mem_of_getElem? h, hg⟩
theorem g_nb (i : Nat) {q : Cond} (h : lw_tbl[i]? = some q) (hg : g_isN q = true) : q ∈ gNb := List.mem_filter.mpr ⟨List.mem_of_getElem? h, hg⟩
theorem g_tbl (ps : List Nat) (ws : List Cond) (h : ws = ps.filterMap (fun i => lw_tbl[i]?)) (hg : ws.all goodWord = true) : ∀ q ∈ ws, q ∈ gTb := by
  intro q hq
  have h1 := List.all_eq_true.mp hg q hq
  rw [h] at hq
  obtain ⟨i, -, hi⟩ := List.mem_filterMap.mp hq
  exact g_tb i hi h1
theorem clX0 : gCls 0 RX0 TX0 5 := ⟨rfl, rfl, g_tbl [151, 153, 155, 157, 159] _ (by decide +kernel) (by decide +kernel), tyX0_ok, nmX0⟩
theorem clX1 : gCls 1 RX1 TX1 4 := ⟨rfl, rfl, g_tbl [253, 255, 257, 259] _ (by decide +kernel) (by decide +kernel), tyX1_ok, nmX1⟩
theorem clX2 : gCls 2 RX2 TX2 13 := ⟨rfl, rfl, g_tbl [209, 211, 213, 215, 217, 219, 221, 223, 225, 227, 229, 231, 233] _ (by decide +kernel) (by decide +kernel), tyX2_ok, nmX2⟩
theorem clX3 : gCls 3 RX3 TX3 10 := ⟨rfl, rfl, g_tbl [311, 313, 315, 317, 319, 321, 323, 325, 327, 329] _ (by decide +kernel) (by decide +kernel), tyX3_ok, nmX3⟩
theorem clX4 : gCls 4 RX4 TX4 5 := ⟨rfl, rfl, g_tbl [343, 345, 347, 349, 351] _ (by decide +kernel) (by decide +kernel), tyX4_ok, nmX4⟩
theorem clX5 : gCls 5 RX5 TX5 2 := ⟨rfl, rfl, g_tbl [117, 119] _ (by decide +kernel) (by decide +kernel), tyX5_ok, nmX5⟩
theorem clX6 : gCls 6 RX6 TX6 5 := ⟨rfl, rfl, g_tbl [289, 291, 293, 295, 297] _ (by decide +kernel) (by decide +kernel), tyX6_ok, nmX6⟩
theorem clX7 : gCls 7 RX7 TX7 9 := ⟨rfl, rfl, g_tbl [363, 365, 367, 369, 371, 373, 375, 377, 379] _ (by decide +kernel) (by decide +kernel), tyX7_ok, nmX7⟩
theorem clX8 : gCls 8 RX8 TX8 74 := ⟨rfl, rfl, g_tbl [1060, 1062, 1064, 1066, 1068, 1070, 1072, 1074, 1076, 1078, 1080, 1082, 1084, 1086, 1088, 1090, 1092, 1094, 1096, 1098, 1100, 1102, 1104, 1106, 1108, 1110, 1112, 1114, 1116, 1118, 1120, 1122, 1124, 1126, 1128, 1130, 1132, 1134, 1136, 1138, 1140, 1142, 1144, 1146, 1148, 1150, 1152, 1154, 1156, 1158, 1160, 1162, 1164, 1166, 1168, 1170, 1172, 1174, 1176, 1178, 1180, 1182, 1184, 1186, 1188, 1190, 1192, 1194, 1196, 1198, 1200, 1202, 1204, 1206] _ (by decide +kernel) (by decide +kernel), tyX8_ok, nmX8⟩
theorem lf_ScopeGraph_10 : gFw RX7 10 7 0 := ⟨_, _, _, clX7, by decide, rfl, Or.inl (g_tb 354 (by decide +kernel) rfl)⟩
theorem lf_ScopeGraph_16 : gFw RX7 16 7 1 := ⟨_, _, _, clX7, by decide, rfl, Or.inl (g_tb 355 (by decide +kernel) rfl)⟩
theorem lf_ScopeGraph_22 : gFw RX7 22 7 2 := ⟨_, _, _, clX7, by decide, rfl, Or.inl (g_tb 356 (by decide +kernel) rfl)⟩
theorem lf_ScopeGraph_26 : gFw RX7 26 7 3 := ⟨_, _, _, clX7, by decide, rfl, Or.inl (g_tb 357 (by decide +kernel) rfl)⟩
theorem lf_ScopeGraph_32 : gFw RX7 32 7 4 := ⟨_, _, _, clX7, by decide, rfl, Or.inl (g_tb 358 (by decide +kernel) rfl)⟩
theorem lf_ScopeGraph_36 : gFw RX7 36 7 5 := ⟨_, _, _, clX7, by decide, rfl, Or.inl (g_tb 359 (by decide +kernel) rfl)⟩
theorem lf_ScopeGraph_44 : gF RX7 44 7 6 := ⟨_, _, _, clX7, by decide, Or.inl (g_tb 360 (by decide +kernel) rfl)⟩
theorem lf_ScopeGraph_53 : gF RX7 53 7 7 := ⟨_, _, _, clX7, by decide, Or.inl (g_tb 361 (by decide +kernel) rfl)⟩
theorem lf_ScopeGraph_57 : gFw RX7 57 7 8 := ⟨_, _, _, clX7, by decide, rfl, Or.inl (g_tb 362 (by decide +kernel) rfl)⟩
theorem lf_ScopeGraph_61 : gFw RX7 61 5 1 := ⟨_, _, _, clX5, by decide, rfl, Or.inr ⟨"ScopeGraph", g_nb 114 (by decide +kernel) rfl⟩⟩
theorem lf_ScopeGraph_93 : gFw RX7 93 2 11 := ⟨_, _, _, clX2, by decide, rfl, Or.inr ⟨"ScopeGraph", g_nb 205 (by decide +kernel) rfl⟩⟩
theorem lf_ScopeGraph_100 : gF RX7 100 2 0 := ⟨_, _, _, clX2, by decide, Or.inr ⟨"ScopeGraph", g_nb 174 (by decide +kernel) rfl⟩⟩
theorem lf_ScopeGraph_104 : gFw RX7 104 0 4 := ⟨_, _, _, clX0, by decide, rfl, Or.inr ⟨"ScopeGraph", g_nb 149 (by decide +kernel) rfl⟩⟩
theorem lf_ScopeGraph_107 : gF RX7 107 2 1 := ⟨_, _, _, clX2, by decide, Or.inr ⟨"ScopeGraph", g_nb 179 (by decide +kernel) rfl⟩⟩
theorem lf_ScopeGraph_124 : gF RX7 124 2 2 := ⟨_, _, _, clX2, by decide, Or.inr ⟨"ScopeGraph", g_nb 183 (by decide +kernel) rfl⟩⟩
theorem lf_ScopeGraph_128 : gF RX7 128 2 3 := ⟨_, _, _, clX2, by decide, Or.inr ⟨"ScopeGraph", g_nb 186 (by decide +kernel) rfl⟩⟩
theorem lf_ScopeGraph_131 : gF RX7 131 2 4 := ⟨_, _, _, clX2, by decide, Or.inr ⟨"ScopeGraph", g_nb 189 (by decide +kernel) rfl⟩⟩
theorem lf_ScopeGraph_154 : gF RX7 154 0 0 := ⟨_, _, _, clX0, by decide, Or.inr ⟨"ScopeGraph", g_nb 137 (by decide +kernel) rfl⟩⟩
theorem lf_ScopeGraph_156 : gF RX7 156 0 1 := ⟨_, _, _, clX0, by decide, Or.inr ⟨"ScopeGraph", g_nb 140 (by decide +kernel) rfl⟩⟩
theorem lf_ScopeGraph_159 : gF RX7 159 2 6 := ⟨_, _, _, clX2, by decide, Or.inr ⟨"ScopeGraph", g_nb 193 (by decide +kernel) rfl⟩⟩
theorem lf_ScopeGraph_172 : gF RX7 172 2 7 := ⟨_, _, _, clX2, by decide, Or.inr ⟨"ScopeGraph", g_nb 196 (by decide +kernel) rfl⟩⟩
theorem lf_ScopeGraph_175 : gF RX7 175 1 1 := ⟨_, _, _, clX1, by decide, Or.inr ⟨"ScopeGraph", g_nb 246 (by decide +kernel) rfl⟩⟩
theorem lf_ScopeGraph_178 : gF RX7 178 1 2 := ⟨_, _, _, clX1, by decide, Or.inr ⟨"ScopeGraph", g_nb 249 (by decide +kernel) rfl⟩⟩
theorem lf_ScopeGraph_181 : gF RX7 181 1 3 := ⟨_, _, _, clX1, by decide, Or.inr ⟨"ScopeGraph", g_nb 252 (by decide +kernel) rfl⟩⟩
theorem lf_ScopeGraph_189 : gF RX7 189 3 0 := ⟨_, _, _, clX3, by decide, Or.inr ⟨"ScopeGraph", g_nb 301 (by decide +kernel) rfl⟩⟩
theorem lf_ScopeGraph_210 : gFw RX7 210 6 2 := ⟨_, _, _, clX6, by decide, rfl, Or.inr ⟨"ScopeGraph", g_nb 280 (by decide +kernel) rfl⟩⟩
theorem lf_ScopeGraph_230 : gFw RX7 230 6 3 := ⟨_, _, _, clX6, by decide, rfl, Or.inr ⟨"ScopeGraph", g_nb 284 (by decide +kernel) rfl⟩⟩
theorem lf_ScopeGraph_234 : gFw RX7 234 6 4 := ⟨_, _, _, clX6, by decide, rfl, Or.inr ⟨"ScopeGraph", g_nb 288 (by decide +kernel) rfl⟩⟩
theorem lf_ScopeGraph_Marks_9 : gF RX0 9 0 0 := ⟨_, _, _, clX0, by decide, Or.inl (g_tb 135 (by decide +kernel) rfl)⟩
theorem lf_ScopeGraph_Marks_15 : gF RX0 15 0 1 := ⟨_, _, _, clX0, by decide, Or.inl (g_tb 139 (by decide +kernel) rfl)⟩
theorem lf_ScopeGraph_Marks_18 : gF RX0 18 0 2 := ⟨_, _, _, clX0, by decide, Or.inl (g_tb 141 (by decide +kernel) rfl)⟩
theorem lf_ScopeGraph_Marks_22 : gF RX0 22 0 3 := ⟨_, _, _, clX0, by decide, Or.inl (g_tb 143 (by decide +kernel) rfl)⟩
theorem lf_ScopeGraph_Marks_25 : gFw RX0 25 0 4 := ⟨_, _, _, clX0, by decide, rfl, Or.inl (g_tb 145 (by decide +kernel) rfl)⟩
theorem lf_ScopeGraph_Marks_29 : gFw RX0 29 6 1 := ⟨_, _, _, clX6, by decide, rfl, Or.inr ⟨"ScopeGraph", g_nb 278 (by decide +kernel) rfl⟩⟩
theorem lf_ScopeGraph_Marks_34 : gFw RX0 34 6 3 := ⟨_, _, _, clX6, by decide, rfl, Or.inr ⟨"ScopeGraph", g_nb 282 (by decide +kernel) rfl⟩⟩
theorem lf_ScopeGraph_Marks_38 : gFw RX0 38 6 4 := ⟨_, _, _, clX6, by decide, rfl, Or.inr ⟨"ScopeGraph", g_nb 286 (by decide +kernel) rfl⟩⟩
theorem lf_ScopeGraph_Meaning_9 : gF RX1 9 1 0 := ⟨_, _, _, clX1, by decide, Or.inl (g_tb 242 (by decide +kernel) rfl)⟩
theorem lf_ScopeGraph_Meaning_15 : gF RX1 15 1 1 := ⟨_, _, _, clX1, by decide, Or.inl (g_tb 244 (by decide +kernel) rfl)⟩
theorem lf_ScopeGraph_Meaning_18 : gF RX1 18 1 2 := ⟨_, _, _, clX1, by decide, Or.inl (g_tb 247 (by decide +kernel) rfl)⟩
theorem lf_ScopeGraph_Meaning_22 : gF RX1 22 1 3 := ⟨_, _, _, clX1, by decide, Or.inl (g_tb 250 (by decide +kernel) rfl)⟩
theorem lf_ScopeGraph_Meaning_25 : gF RX1 25 2 1 := ⟨_, _, _, clX2, by decide, Or.inr ⟨"ScopeGraph", g_nb 177 (by decide +kernel) rfl⟩⟩
theorem lf_ScopeGraph_Meaning_31 : gFw RX1 31 0 4 := ⟨_, _, _, clX0, by decide, rfl, Or.inr ⟨"ScopeGraph", g_nb 146 (by decide +kernel) rfl⟩⟩
theorem lf_ScopeGraph_Meaning_37 : gF RX1 37 2 0 := ⟨_, _, _, clX2, by decide, Or.inr ⟨"ScopeGraph", g_nb 173 (by decide +kernel) rfl⟩⟩
theorem lf_ScopeGraph_Meaning_40 : gF RX1 40 0 2 := ⟨_, _, _, clX0, by decide, Or.inr ⟨"ScopeGraph", g_nb 142 (by decide +kernel) rfl⟩⟩
theorem lf_ScopeGraph_Meaning_43 : gF RX1 43 0 3 := ⟨_, _, _, clX0, by decide, Or.inr ⟨"ScopeGraph", g_nb 144 (by decide +kernel) rfl⟩⟩
theorem lf_ScopeGraph_Meaning_50 : gFw RX1 50 6 3 := ⟨_, _, _, clX6, by decide, rfl, Or.inr ⟨"ScopeGraph", g_nb 281 (by decide +kernel) rfl⟩⟩
theorem lf_ScopeGraph_Meaning_56 : gFw RX1 56 6 4 := ⟨_, _, _, clX6, by decide, rfl, Or.inr ⟨"ScopeGraph", g_nb 285 (by decide +kernel) rfl⟩⟩
theorem lf_ScopeGraph_Program_14 : gF RX2 14 2 0 := ⟨_, _, _, clX2, by decide, Or.inl (g_tb 172 (by decide +kernel) rfl)⟩
theorem lf_ScopeGraph_Program_20 : gF RX2 20 2 1 := ⟨_, _, _, clX2, by decide, Or.inl (g_tb 176 (by decide +kernel) rfl)⟩
theorem lf_ScopeGraph_Program_23 : gF RX2 23 2 2 := ⟨_, _, _, clX2, by decide, Or.inl (g_tb 181 (by decide +kernel) rfl)⟩
theorem lf_ScopeGraph_Program_27 : gF RX2 27 2 3 := ⟨_, _, _, clX2, by decide, Or.inl (g_tb 184 (by decide +kernel) rfl)⟩
theorem lf_ScopeGraph_Program_30 : gF RX2 30 2 4 := ⟨_, _, _, clX2, by decide, Or.inl (g_tb 187 (by decide +kernel) rfl)⟩
theorem lf_ScopeGraph_Program_34 : gF RX2 34 2 5 := ⟨_, _, _, clX2, by decide, Or.inl (g_tb 190 (by decide +kernel) rfl)⟩
theorem lf_ScopeGraph_Program_37 : gF RX2 37 2 6 := ⟨_, _, _, clX2, by decide, Or.inl (g_tb 192 (by decide +kernel) rfl)⟩
theorem lf_ScopeGraph_Program_40 : gF RX2 40 2 7 := ⟨_, _, _, clX2, by decide, Or.inl (g_tb 195 (by decide +kernel) rfl)⟩
theorem lf_ScopeGraph_Program_43 : gF RX2 43 2 8 := ⟨_, _, _, clX2, by decide, Or.inl (g_tb 198 (by decide +kernel) rfl)⟩
theorem lf_ScopeGraph_Program_46 : gF RX2 46 2 9 := ⟨_, _, _, clX2, by decide, Or.inl (g_tb 200 (by decide +kernel) rfl)⟩
theorem lf_ScopeGraph_Program_49 : gF RX2 49 2 10 := ⟨_, _, _, clX2, by decide, Or.inl (g_tb 202 (by decide +kernel) rfl)⟩
theorem lf_ScopeGraph_Program_55 : gFw RX2 55 2 11 := ⟨_, _, _, clX2, by decide, rfl, Or.inl (g_tb 204 (by decide +kernel) rfl)⟩
theorem lf_ScopeGraph_Program_59 : gFw RX2 59 2 12 := ⟨_, _, _, clX2, by decide, rfl, Or.inl (g_tb 206 (by decide +kernel) rfl)⟩
theorem lf_ScopeGraph_Program_62 : gFw RX2 62 0 4 := ⟨_, _, _, clX0, by decide, rfl, Or.inr ⟨"ScopeGraph", g_nb 147 (by decide +kernel) rfl⟩⟩
theorem lf_ScopeGraph_Program_73 : gF RX2 73 0 0 := ⟨_, _, _, clX0, by decide, Or.inr ⟨"ScopeGraph", g_nb 138 (by decide +kernel) rfl⟩⟩
theorem lf_ScopeGraph_Reader_12 : gF RX3 12 3 0 := ⟨_, _, _, clX3, by decide, Or.inl (g_tb 300 (by decide +kernel) rfl)⟩
theorem lf_ScopeGraph_Reader_18 : gF RX3 18 3 1 := ⟨_, _, _, clX3, by decide, Or.inl (g_tb 302 (by decide +kernel) rfl)⟩
theorem lf_ScopeGraph_Reader_22 : gF RX3 22 3 2 := ⟨_, _, _, clX3, by decide, Or.inl (g_tb 303 (by decide +kernel) rfl)⟩
theorem lf_ScopeGraph_Reader_25 : gF RX3 25 3 3 := ⟨_, _, _, clX3, by decide, Or.inl (g_tb 304 (by decide +kernel) rfl)⟩
theorem lf_ScopeGraph_Reader_28 : gFw RX3 28 3 4 := ⟨_, _, _, clX3, by decide, rfl, Or.inl (g_tb 305 (by decide +kernel) rfl)⟩
theorem lf_ScopeGraph_Reader_40 : gFw RX3 40 3 5 := ⟨_, _, _, clX3, by decide, rfl, Or.inl (g_tb 306 (by decide +kernel) rfl)⟩
theorem lf_ScopeGraph_Reader_44 : gFw RX3 44 3 6 := ⟨_, _, _, clX3, by decide, rfl, Or.inl (g_tb 307 (by decide +kernel) rfl)⟩
theorem lf_ScopeGraph_Reader_47 : gFw RX3 47 3 7 := ⟨_, _, _, clX3, by decide, rfl, Or.inl (g_tb 308 (by decide +kernel) rfl)⟩
theorem lf_ScopeGraph_Reader_50 : gFw RX3 50 3 8 := ⟨_, _, _, clX3, by decide, rfl, Or.inl (g_tb 309 (by decide +kernel) rfl)⟩
theorem lf_ScopeGraph_Reader_57 : gFw RX3 57 6 0 := ⟨_, _, _, clX6, by decide, rfl, Or.inr ⟨"ScopeGraph", g_nb 274 (by decide +kernel) rfl⟩⟩
theorem lf_ScopeGraph_Reader_64 : gFw RX3 64 6 1 := ⟨_, _, _, clX6, by decide, rfl, Or.inr ⟨"ScopeGraph", g_nb 277 (by decide +kernel) rfl⟩⟩
theorem lf_ScopeGraph_Reader_141 : gF RX3 141 2 6 := ⟨_, _, _, clX2, by decide, Or.inr ⟨"ScopeGraph", g_nb 194 (by decide +kernel) rfl⟩⟩
theorem lf_ScopeGraph_Reader_144 : gFw RX3 144 2 12 := ⟨_, _, _, clX2, by decide, rfl, Or.inr ⟨"ScopeGraph", g_nb 208 (by decide +kernel) rfl⟩⟩
theorem lf_ScopeGraph_Reader_147 : gF RX3 147 2 1 := ⟨_, _, _, clX2, by decide, Or.inr ⟨"ScopeGraph", g_nb 180 (by decide +kernel) rfl⟩⟩
theorem lf_ScopeGraph_Reader_151 : gFw RX3 151 0 4 := ⟨_, _, _, clX0, by decide, rfl, Or.inr ⟨"ScopeGraph", g_nb 150 (by decide +kernel) rfl⟩⟩
theorem lf_ScopeGraph_Reader_156 : gFw RX3 156 3 9 := ⟨_, _, _, clX3, by decide, rfl, Or.inl (g_tb 310 (by decide +kernel) rfl)⟩
theorem lf_ScopeGraph_Reader_165 : gF RX3 165 2 0 := ⟨_, _, _, clX2, by decide, Or.inr ⟨"ScopeGraph", g_nb 175 (by decide +kernel) rfl⟩⟩
theorem lf_ScopeGraph_Reader_174 : gF RX3 174 2 7 := ⟨_, _, _, clX2, by decide, Or.inr ⟨"ScopeGraph", g_nb 197 (by decide +kernel) rfl⟩⟩
theorem lf_ScopeGraph_Resolver_11 : gF RX4 11 4 0 := ⟨_, _, _, clX4, by decide, Or.inl (g_tb 338 (by decide +kernel) rfl)⟩
theorem lf_ScopeGraph_Resolver_15 : gFw RX4 15 4 1 := ⟨_, _, _, clX4, by decide, rfl, Or.inl (g_tb 339 (by decide +kernel) rfl)⟩
theorem lf_ScopeGraph_Resolver_19 : gFw RX4 19 4 2 := ⟨_, _, _, clX4, by decide, rfl, Or.inl (g_tb 340 (by decide +kernel) rfl)⟩
theorem lf_ScopeGraph_Resolver_23 : gFw RX4 23 2 12 := ⟨_, _, _, clX2, by decide, rfl, Or.inr ⟨"ScopeGraph", g_nb 207 (by decide +kernel) rfl⟩⟩
theorem lf_ScopeGraph_Resolver_33 : gF RX4 33 2 1 := ⟨_, _, _, clX2, by decide, Or.inr ⟨"ScopeGraph", g_nb 178 (by decide +kernel) rfl⟩⟩
theorem lf_ScopeGraph_Resolver_37 : gFw RX4 37 0 4 := ⟨_, _, _, clX0, by decide, rfl, Or.inr ⟨"ScopeGraph", g_nb 148 (by decide +kernel) rfl⟩⟩
theorem lf_ScopeGraph_Resolver_42 : gF RX4 42 2 8 := ⟨_, _, _, clX2, by decide, Or.inr ⟨"ScopeGraph", g_nb 199 (by decide +kernel) rfl⟩⟩
theorem lf_ScopeGraph_Resolver_54 : gF RX4 54 1 1 := ⟨_, _, _, clX1, by decide, Or.inr ⟨"ScopeGraph", g_nb 245 (by decide +kernel) rfl⟩⟩
theorem lf_ScopeGraph_Resolver_59 : gF RX4 59 1 2 := ⟨_, _, _, clX1, by decide, Or.inr ⟨"ScopeGraph", g_nb 248 (by decide +kernel) rfl⟩⟩
theorem lf_ScopeGraph_Resolver_62 : gFw RX4 62 4 3 := ⟨_, _, _, clX4, by decide, rfl, Or.inl (g_tb 341 (by decide +kernel) rfl)⟩
theorem lf_ScopeGraph_Resolver_65 : gF RX4 65 1 0 := ⟨_, _, _, clX1, by decide, Or.inr ⟨"ScopeGraph", g_nb 243 (by decide +kernel) rfl⟩⟩
theorem lf_ScopeGraph_Resolver_68 : gF RX4 68 2 4 := ⟨_, _, _, clX2, by decide, Or.inr ⟨"ScopeGraph", g_nb 188 (by decide +kernel) rfl⟩⟩
theorem lf_ScopeGraph_Resolver_71 : gFw RX4 71 4 4 := ⟨_, _, _, clX4, by decide, rfl, Or.inl (g_tb 342 (by decide +kernel) rfl)⟩
theorem lf_ScopeGraph_Resolver_74 : gF RX4 74 1 3 := ⟨_, _, _, clX1, by decide, Or.inr ⟨"ScopeGraph", g_nb 251 (by decide +kernel) rfl⟩⟩
theorem lf_ScopeGraph_Resolver_77 : gF RX4 77 2 9 := ⟨_, _, _, clX2, by decide, Or.inr ⟨"ScopeGraph", g_nb 201 (by decide +kernel) rfl⟩⟩
theorem lf_ScopeGraph_Resolver_80 : gF RX4 80 2 10 := ⟨_, _, _, clX2, by decide, Or.inr ⟨"ScopeGraph", g_nb 203 (by decide +kernel) rfl⟩⟩
theorem lf_ScopeGraph_Resolver_87 : gF RX4 87 0 0 := ⟨_, _, _, clX0, by decide, Or.inr ⟨"ScopeGraph", g_nb 136 (by decide +kernel) rfl⟩⟩
theorem lf_ScopeGraph_Resolver_90 : gF RX4 90 2 3 := ⟨_, _, _, clX2, by decide, Or.inr ⟨"ScopeGraph", g_nb 185 (by decide +kernel) rfl⟩⟩
theorem lf_ScopeGraph_Resolver_97 : gF RX4 97 2 2 := ⟨_, _, _, clX2, by decide, Or.inr ⟨"ScopeGraph", g_nb 182 (by decide +kernel) rfl⟩⟩
theorem lf_ScopeGraph_Resolver_110 : gF RX4 110 2 5 := ⟨_, _, _, clX2, by decide, Or.inr ⟨"ScopeGraph", g_nb 191 (by decide +kernel) rfl⟩⟩
theorem lf_ScopeGraph_Tape_9 : gF RX5 9 5 0 := ⟨_, _, _, clX5, by decide, Or.inl (g_tb 113 (by decide +kernel) rfl)⟩
theorem lf_ScopeGraph_Tape_15 : gFw RX5 15 5 1 := ⟨_, _, _, clX5, by decide, rfl, Or.inl (g_tb 115 (by decide +kernel) rfl)⟩
theorem lf_ScopeGraph_Tokens_9 : gFw RX6 9 6 1 := ⟨_, _, _, clX6, by decide, rfl, Or.inl (g_tb 276 (by decide +kernel) rfl)⟩
theorem lf_ScopeGraph_Tokens_15 : gFw RX6 15 6 2 := ⟨_, _, _, clX6, by decide, rfl, Or.inl (g_tb 279 (by decide +kernel) rfl)⟩
theorem lf_ScopeGraph_Tokens_28 : gFw RX6 28 6 0 := ⟨_, _, _, clX6, by decide, rfl, Or.inl (g_tb 275 (by decide +kernel) rfl)⟩
theorem lf_ScopeGraph_Tokens_58 : gFw RX6 58 5 1 := ⟨_, _, _, clX5, by decide, rfl, Or.inr ⟨"ScopeGraph", g_nb 116 (by decide +kernel) rfl⟩⟩
theorem lf_ScopeGraph_Tokens_61 : gFw RX6 61 6 3 := ⟨_, _, _, clX6, by decide, rfl, Or.inl (g_tb 283 (by decide +kernel) rfl)⟩
theorem lf_ScopeGraph_Tokens_65 : gFw RX6 65 6 4 := ⟨_, _, _, clX6, by decide, rfl, Or.inl (g_tb 287 (by decide +kernel) rfl)⟩
theorem lf_ScopeGraphModel_7 : gF RX8 7 8 1 := ⟨_, _, _, clX8, by decide, Or.inl (g_tb 987 (by decide +kernel) rfl)⟩
theorem lf_ScopeGraphModel_13 : gF RX8 13 8 3 := ⟨_, _, _, clX8, by decide, Or.inl (g_tb 989 (by decide +kernel) rfl)⟩
theorem lf_ScopeGraphModel_16 : gF RX8 16 8 5 := ⟨_, _, _, clX8, by decide, Or.inl (g_tb 991 (by decide +kernel) rfl)⟩
theorem lf_ScopeGraphModel_19 : gF RX8 19 8 8 := ⟨_, _, _, clX8, by decide, Or.inl (g_tb 994 (by decide +kernel) rfl)⟩
theorem lf_ScopeGraphModel_22 : gF RX8 22 8 9 := ⟨_, _, _, clX8, by decide, Or.inl (g_tb 995 (by decide +kernel) rfl)⟩
theorem lf_ScopeGraphModel_25 : gFw RX8 25 8 10 := ⟨_, _, _, clX8, by decide, rfl, Or.inl (g_tb 996 (by decide +kernel) rfl)⟩
theorem lf_ScopeGraphModel_29 : gF RX8 29 8 11 := ⟨_, _, _, clX8, by decide, Or.inl (g_tb 997 (by decide +kernel) rfl)⟩
theorem lf_ScopeGraphModel_32 : gF RX8 32 8 12 := ⟨_, _, _, clX8, by decide, Or.inl (g_tb 998 (by decide +kernel) rfl)⟩
theorem lf_ScopeGraphModel_35 : gF RX8 35 8 13 := ⟨_, _, _, clX8, by decide, Or.inl (g_tb 999 (by decide +kernel) rfl)⟩
theorem lf_ScopeGraphModel_38 : gF RX8 38 8 14 := ⟨_, _, _, clX8, by decide, Or.inl (g_tb 1000 (by decide +kernel) rfl)⟩
theorem lf_ScopeGraphModel_41 : gF RX8 41 8 16 := ⟨_, _, _, clX8, by decide, Or.inl (g_tb 1002 (by decide +kernel) rfl)⟩
theorem lf_ScopeGraphModel_44 : gF RX8 44 8 17 := ⟨_, _, _, clX8, by decide, Or.inl (g_tb 1003 (by decide +kernel) rfl)⟩
theorem lf_ScopeGraphModel_47 : gF RX8 47 8 18 := ⟨_, _, _, clX8, by decide, Or.inl (g_tb 1004 (by decide +kernel) rfl)⟩
theorem lf_ScopeGraphModel_50 : gF RX8 50 8 19 := ⟨_, _, _, clX8, by decide, Or.inl (g_tb 1005 (by decide +kernel) rfl)⟩
theorem lf_ScopeGraphModel_53 : gF RX8 53 8 22 := ⟨_, _, _, clX8, by decide, Or.inl (g_tb 1008 (by decide +kernel) rfl)⟩
theorem lf_ScopeGraphModel_56 : gF RX8 56 8 23 := ⟨_, _, _, clX8, by decide, Or.inl (g_tb 1009 (by decide +kernel) rfl)⟩
theorem lf_ScopeGraphModel_59 : gF RX8 59 8 25 := ⟨_, _, _, clX8, by decide, Or.inl (g_tb 1011 (by decide +kernel) rfl)⟩
theorem lf_ScopeGraphModel_62 : gF RX8 62 8 26 := ⟨_, _, _, clX8, by decide, Or.inl (g_tb 1012 (by decide +kernel) rfl)⟩
theorem lf_ScopeGraphModel_65 : gF RX8 65 8 27 := ⟨_, _, _, clX8, by decide, Or.inl (g_tb 1013 (by decide +kernel) rfl)⟩
theorem lf_ScopeGraphModel_68 : gF RX8 68 8 28 := ⟨_, _, _, clX8, by decide, Or.inl (g_tb 1014 (by decide +kernel) rfl)⟩
theorem lf_ScopeGraphModel_71 : gF RX8 71 8 30 := ⟨_, _, _, clX8, by decide, Or.inl (g_tb 1016 (by decide +kernel) rfl)⟩
theorem lf_ScopeGraphModel_74 : gF RX8 74 8 31 := ⟨_, _, _, clX8, by decide, Or.inl (g_tb 1017 (by decide +kernel) rfl)⟩
theorem lf_ScopeGraphModel_77 : gF RX8 77 8 32 := ⟨_, _, _, clX8, by decide, Or.inl (g_tb 1018 (by decide +kernel) rfl)⟩
theorem lf_ScopeGraphModel_80 : gF RX8 80 8 33 := ⟨_, _, _, clX8, by decide, Or.inl (g_tb 1019 (by decide +kernel) rfl)⟩
theorem lf_ScopeGraphModel_83 : gF RX8 83 8 35 := ⟨_, _, _, clX8, by decide, Or.inl (g_tb 1021 (by decide +kernel) rfl)⟩
theorem lf_ScopeGraphModel_86 : gF RX8 86 8 36 := ⟨_, _, _, clX8, by decide, Or.inl (g_tb 1022 (by decide +kernel) rfl)⟩
theorem lf_ScopeGraphModel_89 : gF RX8 89 8 43 := ⟨_, _, _, clX8, by decide, Or.inl (g_tb 1029 (by decide +kernel) rfl)⟩
theorem lf_ScopeGraphModel_92 : gF RX8 92 8 44 := ⟨_, _, _, clX8, by decide, Or.inl (g_tb 1030 (by decide +kernel) rfl)⟩
theorem lf_ScopeGraphModel_95 : gF RX8 95 8 45 := ⟨_, _, _, clX8, by decide, Or.inl (g_tb 1031 (by decide +kernel) rfl)⟩
theorem lf_ScopeGraphModel_98 : gF RX8 98 8 46 := ⟨_, _, _, clX8, by decide, Or.inl (g_tb 1032 (by decide +kernel) rfl)⟩
theorem lf_ScopeGraphModel_101 : gF RX8 101 8 52 := ⟨_, _, _, clX8, by decide, Or.inl (g_tb 1038 (by decide +kernel) rfl)⟩
theorem lf_ScopeGraphModel_104 : gF RX8 104 8 53 := ⟨_, _, _, clX8, by decide, Or.inl (g_tb 1039 (by decide +kernel) rfl)⟩
theorem lf_ScopeGraphModel_107 : gF RX8 107 8 54 := ⟨_, _, _, clX8, by decide, Or.inl (g_tb 1040 (by decide +kernel) rfl)⟩
theorem lf_ScopeGraphModel_110 : gF RX8 110 8 55 := ⟨_, _, _, clX8, by decide, Or.inl (g_tb 1041 (by decide +kernel) rfl)⟩
theorem lf_ScopeGraphModel_113 : gF RX8 113 8 56 := ⟨_, _, _, clX8, by decide, Or.inl (g_tb 1042 (by decide +kernel) rfl)⟩
theorem lf_ScopeGraphModel_116 : gF RX8 116 8 57 := ⟨_, _, _, clX8, by decide, Or.inl (g_tb 1043 (by decide +kernel) rfl)⟩
theorem lf_ScopeGraphModel_119 : gF RX8 119 8 58 := ⟨_, _, _, clX8, by decide, Or.inl (g_tb 1044 (by decide +kernel) rfl)⟩
theorem lf_ScopeGraphModel_123 : gF RX8 123 8 59 := ⟨_, _, _, clX8, by decide, Or.inl (g_tb 1045 (by decide +kernel) rfl)⟩
theorem lf_ScopeGraphModel_126 : gF RX8 126 8 60 := ⟨_, _, _, clX8, by decide, Or.inl (g_tb 1046 (by decide +kernel) rfl)⟩
theorem lf_ScopeGraphModel_129 : gF RX8 129 8 61 := ⟨_, _, _, clX8, by decide, Or.inl (g_tb 1047 (by decide +kernel) rfl)⟩
theorem lf_ScopeGraphModel_132 : gF RX8 132 8 62 := ⟨_, _, _, clX8, by decide, Or.inl (g_tb 1048 (by decide +kernel) rfl)⟩
theorem lf_ScopeGraphModel_135 : gF RX8 135 8 63 := ⟨_, _, _, clX8, by decide, Or.inl (g_tb 1049 (by decide +kernel) rfl)⟩
theorem lf_ScopeGraphModel_138 : gF RX8 138 8 68 := ⟨_, _, _, clX8, by decide, Or.inl (g_tb 1054 (by decide +kernel) rfl)⟩
theorem lf_ScopeGraphModel_141 : gF RX8 141 8 69 := ⟨_, _, _, clX8, by decide, Or.inl (g_tb 1055 (by decide +kernel) rfl)⟩
theorem lf_ScopeGraphModel_144 : gF RX8 144 8 70 := ⟨_, _, _, clX8, by decide, Or.inl (g_tb 1056 (by decide +kernel) rfl)⟩
theorem lf_ScopeGraphModel_148 : gF RX8 148 8 71 := ⟨_, _, _, clX8, by decide, Or.inl (g_tb 1057 (by decide +kernel) rfl)⟩
theorem lf_ScopeGraphModel_151 : gF RX8 151 8 72 := ⟨_, _, _, clX8, by decide, Or.inl (g_tb 1058 (by decide +kernel) rfl)⟩
theorem lf_ScopeGraphModel_154 : gFw RX8 154 8 0 := ⟨_, _, _, clX8, by decide, rfl, Or.inl (g_tb 986 (by decide +kernel) rfl)⟩
theorem lf_ScopeGraphModel_157 : gFw RX8 157 8 2 := ⟨_, _, _, clX8, by decide, rfl, Or.inl (g_tb 988 (by decide +kernel) rfl)⟩
theorem lf_ScopeGraphModel_168 : gFw RX8 168 8 7 := ⟨_, _, _, clX8, by decide, rfl, Or.inl (g_tb 993 (by decide +kernel) rfl)⟩
theorem lf_ScopeGraphModel_171 : gFw RX8 171 8 42 := ⟨_, _, _, clX8, by decide, rfl, Or.inl (g_tb 1028 (by decide +kernel) rfl)⟩
theorem lf_ScopeGraphModel_174 : gFw RX8 174 8 6 := ⟨_, _, _, clX8, by decide, rfl, Or.inl (g_tb 992 (by decide +kernel) rfl)⟩
theorem lf_ScopeGraphModel_177 : gFw RX8 177 8 37 := ⟨_, _, _, clX8, by decide, rfl, Or.inl (g_tb 1023 (by decide +kernel) rfl)⟩
theorem lf_ScopeGraphModel_184 : gFw RX8 184 8 40 := ⟨_, _, _, clX8, by decide, rfl, Or.inl (g_tb 1026 (by decide +kernel) rfl)⟩
theorem lf_ScopeGraphModel_187 : gFw RX8 187 8 38 := ⟨_, _, _, clX8, by decide, rfl, Or.inl (g_tb 1024 (by decide +kernel) rfl)⟩
theorem lf_ScopeGraphModel_197 : gFw RX8 197 8 41 := ⟨_, _, _, clX8, by decide, rfl, Or.inl (g_tb 1027 (by decide +kernel) rfl)⟩
theorem lf_ScopeGraphModel_208 : gFw RX8 208 8 39 := ⟨_, _, _, clX8, by decide, rfl, Or.inl (g_tb 1025 (by decide +kernel) rfl)⟩
theorem lf_ScopeGraphModel_211 : gFw RX8 211 8 15 := ⟨_, _, _, clX8, by decide, rfl, Or.inl (g_tb 1001 (by decide +kernel) rfl)⟩
theorem lf_ScopeGraphModel_214 : gFw RX8 214 8 48 := ⟨_, _, _, clX8, by decide, rfl, Or.inl (g_tb 1034 (by decide +kernel) rfl)⟩
theorem lf_ScopeGraphModel_217 : gFw RX8 217 8 47 := ⟨_, _, _, clX8, by decide, rfl, Or.inl (g_tb 1033 (by decide +kernel) rfl)⟩
theorem lf_ScopeGraphModel_220 : gFw RX8 220 8 49 := ⟨_, _, _, clX8, by decide, rfl, Or.inl (g_tb 1035 (by decide +kernel) rfl)⟩
theorem lf_ScopeGraphModel_223 : gFw RX8 223 8 20 := ⟨_, _, _, clX8, by decide, rfl, Or.inl (g_tb 1006 (by decide +kernel) rfl)⟩
theorem lf_ScopeGraphModel_226 : gFw RX8 226 8 21 := ⟨_, _, _, clX8, by decide, rfl, Or.inl (g_tb 1007 (by decide +kernel) rfl)⟩
theorem lf_ScopeGraphModel_261 : gFw RX8 261 8 51 := ⟨_, _, _, clX8, by decide, rfl, Or.inl (g_tb 1037 (by decide +kernel) rfl)⟩
theorem lf_ScopeGraphModel_264 : gFw RX8 264 8 50 := ⟨_, _, _, clX8, by decide, rfl, Or.inl (g_tb 1036 (by decide +kernel) rfl)⟩
theorem lf_ScopeGraphModel_283 : gFw RX8 283 8 24 := ⟨_, _, _, clX8, by decide, rfl, Or.inl (g_tb 1010 (by decide +kernel) rfl)⟩
theorem lf_ScopeGraphModel_286 : gFw RX8 286 8 29 := ⟨_, _, _, clX8, by decide, rfl, Or.inl (g_tb 1015 (by decide +kernel) rfl)⟩
theorem lf_ScopeGraphModel_289 : gFw RX8 289 8 34 := ⟨_, _, _, clX8, by decide, rfl, Or.inl (g_tb 1020 (by decide +kernel) rfl)⟩
theorem lf_ScopeGraphModel_304 : gFw RX8 304 8 4 := ⟨_, _, _, clX8, by decide, rfl, Or.inl (g_tb 990 (by decide +kernel) rfl)⟩
theorem lf_ScopeGraphModel_321 : gFw RX8 321 8 64 := ⟨_, _, _, clX8, by decide, rfl, Or.inl (g_tb 1050 (by decide +kernel) rfl)⟩
theorem lf_ScopeGraphModel_324 : gFw RX8 324 8 65 := ⟨_, _, _, clX8, by decide, rfl, Or.inl (g_tb 1051 (by decide +kernel) rfl)⟩
theorem lf_ScopeGraphModel_328 : gFw RX8 328 8 66 := ⟨_, _, _, clX8, by decide, rfl, Or.inl (g_tb 1052 (by decide +kernel) rfl)⟩
theorem lf_ScopeGraphModel_331 : gFw RX8 331 8 67 := ⟨_, _, _, clX8, by decide, rfl, Or.inl (g_tb 1053 (by decide +kernel) rfl)⟩
theorem lf_ScopeGraphModel_386 : gFw RX8 386 8 73 := ⟨_, _, _, clX8, by decide, rfl, Or.inl (g_tb 1059 (by decide +kernel) rfl)⟩
theorem mf_X0_init : gMf yX0_init cX0_init 2 none 1 := ⟨g_tb 133 (by decide +kernel) (by decide +kernel), g_tb 80 (by decide +kernel) rfl, by decide +kernel, by decide +kernel, by decide +kernel, by decide +kernel, by decide⟩
theorem mf_X0_has : gMf yX0_has cX0_has 2 (some .boolean) 1 := ⟨g_tb 887 (by decide +kernel) (by decide +kernel), g_tb 80 (by decide +kernel) rfl, by decide +kernel, by decide +kernel, by decide +kernel, by decide +kernel, by decide⟩
theorem im_X0_has : Cond.instanceMethod yX0_has ∈ gTb ∧ Cond.selects yX0_has.cls yX0_has yX0_has ∈ gTb := ⟨g_tb 885 (by decide +kernel) rfl, g_tb 886 (by decide +kernel) rfl⟩
theorem mf_X0_add : gMf yX0_add cX0_add 3 (some .int) 2 := ⟨g_tb 597 (by decide +kernel) (by decide +kernel), g_tb 80 (by decide +kernel) rfl, by decide +kernel, by decide +kernel, by decide +kernel, by decide +kernel, by decide⟩
theorem im_X0_add : Cond.instanceMethod yX0_add ∈ gTb ∧ Cond.selects yX0_add.cls yX0_add yX0_add ∈ gTb := ⟨g_tb 595 (by decide +kernel) rfl, g_tb 596 (by decide +kernel) rfl⟩
theorem mf_X0_standsAt : gMf yX0_standsAt cX0_standsAt 3 (some .boolean) 2 := ⟨g_tb 960 (by decide +kernel) (by decide +kernel), g_tb 80 (by decide +kernel) rfl, by decide +kernel, by decide +kernel, by decide +kernel, by decide +kernel, by decide⟩
theorem im_X0_standsAt : Cond.instanceMethod yX0_standsAt ∈ gTb ∧ Cond.selects yX0_standsAt.cls yX0_standsAt yX0_standsAt ∈ gTb := ⟨g_tb 958 (by decide +kernel) rfl, g_tb 959 (by decide +kernel) rfl⟩
theorem mf_X0_move : gMf yX0_move cX0_move 5 none 4 := ⟨g_tb 964 (by decide +kernel) (by decide +kernel), g_tb 80 (by decide +kernel) rfl, by decide +kernel, by decide +kernel, by decide +kernel, by decide +kernel, by decide⟩
theorem im_X0_move : Cond.instanceMethod yX0_move ∈ gTb ∧ Cond.selects yX0_move.cls yX0_move yX0_move ∈ gTb := ⟨g_tb 962 (by decide +kernel) rfl, g_tb 963 (by decide +kernel) rfl⟩
theorem mf_X0_lengthOf : gMf yX0_lengthOf cX0_lengthOf 3 (some .int) 1 := ⟨g_tb 951 (by decide +kernel) (by decide +kernel), g_tb 80 (by decide +kernel) rfl, by decide +kernel, by decide +kernel, by decide +kernel, by decide +kernel, by decide⟩
theorem im_X0_lengthOf : Cond.instanceMethod yX0_lengthOf ∈ gTb ∧ Cond.selects yX0_lengthOf.cls yX0_lengthOf yX0_lengthOf ∈ gTb := ⟨g_tb 949 (by decide +kernel) rfl, g_tb 950 (by decide +kernel) rfl⟩
theorem mf_X0_isNamed : gMf yX0_isNamed cX0_isNamed 6 (some .boolean) 3 := ⟨g_tb 941 (by decide +kernel) (by decide +kernel), g_tb 80 (by decide +kernel) rfl, by decide +kernel, by decide +kernel, by decide +kernel, by decide +kernel, by decide⟩
theorem im_X0_isNamed : Cond.instanceMethod yX0_isNamed ∈ gTb ∧ Cond.selects yX0_isNamed.cls yX0_isNamed yX0_isNamed ∈ gTb := ⟨g_tb 939 (by decide +kernel) rfl, g_tb 940 (by decide +kernel) rfl⟩
theorem mf_X0_named : gMf yX0_named cX0_named 8 (some .long) 2 := ⟨g_tb 673 (by decide +kernel) (by decide +kernel), g_tb 80 (by decide +kernel) rfl, by decide +kernel, by decide +kernel, by decide +kernel, by decide +kernel, by decide⟩
theorem im_X0_named : Cond.instanceMethod yX0_named ∈ gTb ∧ Cond.selects yX0_named.cls yX0_named yX0_named ∈ gTb := ⟨g_tb 671 (by decide +kernel) rfl, g_tb 672 (by decide +kernel) rfl⟩
theorem mf_X1_init : gMf yX1_init cX1_init 1 none 0 := ⟨g_tb 240 (by decide +kernel) (by decide +kernel), g_tb 81 (by decide +kernel) rfl, by decide +kernel, by decide +kernel, by decide +kernel, by decide +kernel, by decide⟩
theorem mf_X1_compareNames : gMf yX1_compareNames cX1_compareNames 4 none 1 := ⟨g_tb 669 (by decide +kernel) (by decide +kernel), g_tb 81 (by decide +kernel) rfl, by decide +kernel, by decide +kernel, by decide +kernel, by decide +kernel, by decide⟩
theorem im_X1_compareNames : Cond.instanceMethod yX1_compareNames ∈ gTb ∧ Cond.selects yX1_compareNames.cls yX1_compareNames yX1_compareNames ∈ gTb := ⟨g_tb 667 (by decide +kernel) rfl, g_tb 668 (by decide +kernel) rfl⟩
theorem mf_X1_supposeName : gMf yX1_supposeName cX1_supposeName 10 none 4 := ⟨g_tb 937 (by decide +kernel) (by decide +kernel), g_tb 81 (by decide +kernel) rfl, by decide +kernel, by decide +kernel, by decide +kernel, by decide +kernel, by decide⟩
theorem im_X1_supposeName : Cond.instanceMethod yX1_supposeName ∈ gTb ∧ Cond.selects yX1_supposeName.cls yX1_supposeName yX1_supposeName ∈ gTb := ⟨g_tb 935 (by decide +kernel) rfl, g_tb 936 (by decide +kernel) rfl⟩
theorem mf_X1_agreesWith : gMf yX1_agreesWith cX1_agreesWith 4 (some .boolean) 2 := ⟨g_tb 947 (by decide +kernel) (by decide +kernel), g_tb 81 (by decide +kernel) rfl, by decide +kernel, by decide +kernel, by decide +kernel, by decide +kernel, by decide⟩
theorem im_X1_agreesWith : Cond.instanceMethod yX1_agreesWith ∈ gTb ∧ Cond.selects yX1_agreesWith.cls yX1_agreesWith yX1_agreesWith ∈ gTb := ⟨g_tb 945 (by decide +kernel) rfl, g_tb 946 (by decide +kernel) rfl⟩
theorem mf_X1_howManyMean : gMf yX1_howManyMean cX1_howManyMean 7 (some .int) 3 := ⟨g_tb 843 (by decide +kernel) (by decide +kernel), g_tb 81 (by decide +kernel) rfl, by decide +kernel, by decide +kernel, by decide +kernel, by decide +kernel, by decide⟩
theorem im_X1_howManyMean : Cond.instanceMethod yX1_howManyMean ∈ gTb ∧ Cond.selects yX1_howManyMean.cls yX1_howManyMean yX1_howManyMean ∈ gTb := ⟨g_tb 841 (by decide +kernel) rfl, g_tb 842 (by decide +kernel) rfl⟩
theorem mf_X1_usersOf : gMf yX1_usersOf cX1_usersOf 6 (some .int) 2 := ⟨g_tb 896 (by decide +kernel) (by decide +kernel), g_tb 81 (by decide +kernel) rfl, by decide +kernel, by decide +kernel, by decide +kernel, by decide +kernel, by decide⟩
theorem im_X1_usersOf : Cond.instanceMethod yX1_usersOf ∈ gTb ∧ Cond.selects yX1_usersOf.cls yX1_usersOf yX1_usersOf ∈ gTb := ⟨g_tb 894 (by decide +kernel) rfl, g_tb 895 (by decide +kernel) rfl⟩
theorem mf_X1_friendsOf : gMf yX1_friendsOf cX1_friendsOf 9 (some .long) 2 := ⟨g_tb 892 (by decide +kernel) (by decide +kernel), g_tb 81 (by decide +kernel) rfl, by decide +kernel, by decide +kernel, by decide +kernel, by decide +kernel, by decide⟩
theorem im_X1_friendsOf : Cond.instanceMethod yX1_friendsOf ∈ gTb ∧ Cond.selects yX1_friendsOf.cls yX1_friendsOf yX1_friendsOf ∈ gTb := ⟨g_tb 890 (by decide +kernel) rfl, g_tb 891 (by decide +kernel) rfl⟩
theorem mf_X2_init : gMf yX2_init cX2_init 1 none 0 := ⟨g_tb 127 (by decide +kernel) (by decide +kernel), g_tb 79 (by decide +kernel) rfl, by decide +kernel, by decide +kernel, by decide +kernel, by decide +kernel, by decide⟩
theorem mf_X2_empty : gMf yX2_empty cX2_empty 1 none 0 := ⟨g_tb 167 (by decide +kernel) (by decide +kernel), g_tb 79 (by decide +kernel) rfl, by decide +kernel, by decide +kernel, by decide +kernel, by decide +kernel, by decide⟩
theorem im_X2_empty : Cond.instanceMethod yX2_empty ∈ gTb ∧ Cond.selects yX2_empty.cls yX2_empty yX2_empty ∈ gTb := ⟨g_tb 165 (by decide +kernel) rfl, g_tb 166 (by decide +kernel) rfl⟩
theorem mf_X2_makeScope : gMf yX2_makeScope cX2_makeScope 3 (some .int) 2 := ⟨g_tb 171 (by decide +kernel) (by decide +kernel), g_tb 79 (by decide +kernel) rfl, by decide +kernel, by decide +kernel, by decide +kernel, by decide +kernel, by decide⟩
theorem im_X2_makeScope : Cond.instanceMethod yX2_makeScope ∈ gTb ∧ Cond.selects yX2_makeScope.cls yX2_makeScope yX2_makeScope ∈ gTb := ⟨g_tb 169 (by decide +kernel) rfl, g_tb 170 (by decide +kernel) rfl⟩
theorem mf_X2_declare : gMf yX2_declare cX2_declare 4 (some .int) 2 := ⟨g_tb 645 (by decide +kernel) (by decide +kernel), g_tb 79 (by decide +kernel) rfl, by decide +kernel, by decide +kernel, by decide +kernel, by decide +kernel, by decide⟩
theorem im_X2_declare : Cond.instanceMethod yX2_declare ∈ gTb ∧ Cond.selects yX2_declare.cls yX2_declare yX2_declare ∈ gTb := ⟨g_tb 643 (by decide +kernel) rfl, g_tb 644 (by decide +kernel) rfl⟩
theorem mf_X2_refer : gMf yX2_refer cX2_refer 4 (some .int) 2 := ⟨g_tb 593 (by decide +kernel) (by decide +kernel), g_tb 79 (by decide +kernel) rfl, by decide +kernel, by decide +kernel, by decide +kernel, by decide +kernel, by decide⟩
theorem im_X2_refer : Cond.instanceMethod yX2_refer ∈ gTb ∧ Cond.selects yX2_refer.cls yX2_refer yX2_refer ∈ gTb := ⟨g_tb 591 (by decide +kernel) rfl, g_tb 592 (by decide +kernel) rfl⟩
theorem mf_X2_importFrom : gMf yX2_importFrom cX2_importFrom 5 none 2 := ⟨g_tb 618 (by decide +kernel) (by decide +kernel), g_tb 79 (by decide +kernel) rfl, by decide +kernel, by decide +kernel, by decide +kernel, by decide +kernel, by decide⟩
theorem im_X2_importFrom : Cond.instanceMethod yX2_importFrom ∈ gTb ∧ Cond.selects yX2_importFrom.cls yX2_importFrom yX2_importFrom ∈ gTb := ⟨g_tb 616 (by decide +kernel) rfl, g_tb 617 (by decide +kernel) rfl⟩
theorem mf_X2_importsInAll : gMf yX2_importsInAll cX2_importsInAll 3 (some .int) 0 := ⟨g_tb 839 (by decide +kernel) (by decide +kernel), g_tb 79 (by decide +kernel) rfl, by decide +kernel, by decide +kernel, by decide +kernel, by decide +kernel, by decide⟩
theorem im_X2_importsInAll : Cond.instanceMethod yX2_importsInAll ∈ gTb ∧ Cond.selects yX2_importsInAll.cls yX2_importsInAll yX2_importsInAll ∈ gTb := ⟨g_tb 837 (by decide +kernel) rfl, g_tb 838 (by decide +kernel) rfl⟩
theorem mf_X2_importsOf : gMf yX2_importsOf cX2_importsOf 4 (some .int) 1 := ⟨g_tb 876 (by decide +kernel) (by decide +kernel), g_tb 79 (by decide +kernel) rfl, by decide +kernel, by decide +kernel, by decide +kernel, by decide +kernel, by decide⟩
theorem im_X2_importsOf : Cond.instanceMethod yX2_importsOf ∈ gTb ∧ Cond.selects yX2_importsOf.cls yX2_importsOf yX2_importsOf ∈ gTb := ⟨g_tb 874 (by decide +kernel) rfl, g_tb 875 (by decide +kernel) rfl⟩
theorem mf_X2_referencesIn : gMf yX2_referencesIn cX2_referencesIn 4 (some .int) 1 := ⟨g_tb 872 (by decide +kernel) (by decide +kernel), g_tb 79 (by decide +kernel) rfl, by decide +kernel, by decide +kernel, by decide +kernel, by decide +kernel, by decide⟩
theorem im_X2_referencesIn : Cond.instanceMethod yX2_referencesIn ∈ gTb ∧ Cond.selects yX2_referencesIn.cls yX2_referencesIn yX2_referencesIn ∈ gTb := ⟨g_tb 870 (by decide +kernel) rfl, g_tb 871 (by decide +kernel) rfl⟩
theorem mf_X2_ownedBy : gMf yX2_ownedBy cX2_ownedBy 9 (some .long) 1 := ⟨g_tb 689 (by decide +kernel) (by decide +kernel), g_tb 79 (by decide +kernel) rfl, by decide +kernel, by decide +kernel, by decide +kernel, by decide +kernel, by decide⟩
theorem im_X2_ownedBy : Cond.instanceMethod yX2_ownedBy ∈ gTb ∧ Cond.selects yX2_ownedBy.cls yX2_ownedBy yX2_ownedBy ∈ gTb := ⟨g_tb 687 (by decide +kernel) rfl, g_tb 688 (by decide +kernel) rfl⟩
theorem mf_X3_init : gMf yX3_init cX3_init 2 none 1 := ⟨g_tb 266 (by decide +kernel) (by decide +kernel), g_tb 82 (by decide +kernel) rfl, by decide +kernel, by decide +kernel, by decide +kernel, by decide +kernel, by decide⟩
theorem mf_X3_parse : gMf yX3_parse cX3_parse 5 (some .int) 2 := ⟨g_tb 389 (by decide +kernel) (by decide +kernel), g_tb 82 (by decide +kernel) rfl, by decide +kernel, by decide +kernel, by decide +kernel, by decide +kernel, by decide⟩
theorem im_X3_parse : Cond.instanceMethod yX3_parse ∈ gTb ∧ Cond.selects yX3_parse.cls yX3_parse yX3_parse ∈ gTb := ⟨g_tb 387 (by decide +kernel) rfl, g_tb 388 (by decide +kernel) rfl⟩
theorem mf_X3_place : gMf yX3_place cX3_place 1 (some .int) 0 := ⟨g_tb 716 (by decide +kernel) (by decide +kernel), g_tb 82 (by decide +kernel) rfl, by decide +kernel, by decide +kernel, by decide +kernel, by decide +kernel, by decide⟩
theorem im_X3_place : Cond.instanceMethod yX3_place ∈ gTb ∧ Cond.selects yX3_place.cls yX3_place yX3_place ∈ gTb := ⟨g_tb 714 (by decide +kernel) rfl, g_tb 715 (by decide +kernel) rfl⟩
theorem mf_X3_take : gMf yX3_take cX3_take 2 (some .int) 1 := ⟨g_tb 553 (by decide +kernel) (by decide +kernel), g_tb 82 (by decide +kernel) rfl, by decide +kernel, by decide +kernel, by decide +kernel, by decide +kernel, by decide⟩
theorem im_X3_take : Cond.instanceMethod yX3_take ∈ gTb ∧ Cond.selects yX3_take.cls yX3_take yX3_take ∈ gTb := ⟨g_tb 552 (by decide +kernel) rfl, g_tb 5 (by decide +kernel) rfl⟩
theorem mf_X3_takeDec : gMf yX3_takeDec cX3_takeDec 2 (some .int) 1 := ⟨g_tb 557 (by decide +kernel) (by decide +kernel), g_tb 82 (by decide +kernel) rfl, by decide +kernel, by decide +kernel, by decide +kernel, by decide +kernel, by decide⟩
theorem im_X3_takeDec : Cond.instanceMethod yX3_takeDec ∈ gTb ∧ Cond.selects yX3_takeDec.cls yX3_takeDec yX3_takeDec ∈ gTb := ⟨g_tb 556 (by decide +kernel) rfl, g_tb 6 (by decide +kernel) rfl⟩
theorem mf_X3_takeAtom : gMf yX3_takeAtom cX3_takeAtom 2 (some .int) 1 := ⟨g_tb 585 (by decide +kernel) (by decide +kernel), g_tb 82 (by decide +kernel) rfl, by decide +kernel, by decide +kernel, by decide +kernel, by decide +kernel, by decide⟩
theorem im_X3_takeAtom : Cond.instanceMethod yX3_takeAtom ∈ gTb ∧ Cond.selects yX3_takeAtom.cls yX3_takeAtom yX3_takeAtom ∈ gTb := ⟨g_tb 584 (by decide +kernel) rfl, g_tb 13 (by decide +kernel) rfl⟩
theorem mf_X3_takeScopeWord : gMf yX3_takeScopeWord cX3_takeScopeWord 4 (some .int) 2 := ⟨g_tb 605 (by decide +kernel) (by decide +kernel), g_tb 82 (by decide +kernel) rfl, by decide +kernel, by decide +kernel, by decide +kernel, by decide +kernel, by decide⟩
theorem im_X3_takeScopeWord : Cond.instanceMethod yX3_takeScopeWord ∈ gTb ∧ Cond.selects yX3_takeScopeWord.cls yX3_takeScopeWord yX3_takeScopeWord ∈ gTb := ⟨g_tb 604 (by decide +kernel) rfl, g_tb 16 (by decide +kernel) rfl⟩
theorem mf_X3_takeBehindAtom : gMf yX3_takeBehindAtom cX3_takeBehindAtom 3 (some .int) 1 := ⟨g_tb 610 (by decide +kernel) (by decide +kernel), g_tb 82 (by decide +kernel) rfl, by decide +kernel, by decide +kernel, by decide +kernel, by decide +kernel, by decide⟩
theorem im_X3_takeBehindAtom : Cond.instanceMethod yX3_takeBehindAtom ∈ gTb ∧ Cond.selects yX3_takeBehindAtom.cls yX3_takeBehindAtom yX3_takeBehindAtom ∈ gTb := ⟨g_tb 609 (by decide +kernel) rfl, g_tb 17 (by decide +kernel) rfl⟩
theorem mf_X3_hasBinds : gMf yX3_hasBinds cX3_hasBinds 1 (some .boolean) 1 := ⟨g_tb 621 (by decide +kernel) (by decide +kernel), g_tb 82 (by decide +kernel) rfl, by decide +kernel, by decide +kernel, by decide +kernel, by decide +kernel, by decide⟩
theorem sm_X3_hasBinds : Cond.static yX3_hasBinds ∈ gTb := g_tb 620 (by decide +kernel) rfl
theorem mf_X3_takeName : gMf yX3_takeName cX3_takeName 1 (some .int) 0 := ⟨g_tb 637 (by decide +kernel) (by decide +kernel), g_tb 82 (by decide +kernel) rfl, by decide +kernel, by decide +kernel, by decide +kernel, by decide +kernel, by decide⟩
theorem im_X3_takeName : Cond.instanceMethod yX3_takeName ∈ gTb ∧ Cond.selects yX3_takeName.cls yX3_takeName yX3_takeName ∈ gTb := ⟨g_tb 636 (by decide +kernel) rfl, g_tb 22 (by decide +kernel) rfl⟩
theorem mf_X3_takeModuleName : gMf yX3_takeModuleName cX3_takeModuleName 3 (some .int) 0 := ⟨g_tb 641 (by decide +kernel) (by decide +kernel), g_tb 82 (by decide +kernel) rfl, by decide +kernel, by decide +kernel, by decide +kernel, by decide +kernel, by decide⟩
theorem im_X3_takeModuleName : Cond.instanceMethod yX3_takeModuleName ∈ gTb ∧ Cond.selects yX3_takeModuleName.cls yX3_takeModuleName yX3_takeModuleName ∈ gTb := ⟨g_tb 640 (by decide +kernel) rfl, g_tb 23 (by decide +kernel) rfl⟩
theorem mf_X3_takeImportName : gMf yX3_takeImportName cX3_takeImportName 1 (some .int) 0 := ⟨g_tb 649 (by decide +kernel) (by decide +kernel), g_tb 82 (by decide +kernel) rfl, by decide +kernel, by decide +kernel, by decide +kernel, by decide +kernel, by decide⟩
theorem im_X3_takeImportName : Cond.instanceMethod yX3_takeImportName ∈ gTb ∧ Cond.selects yX3_takeImportName.cls yX3_takeImportName yX3_takeImportName ∈ gTb := ⟨g_tb 648 (by decide +kernel) rfl, g_tb 24 (by decide +kernel) rfl⟩
theorem mf_X3_takeImportEnd : gMf yX3_takeImportEnd cX3_takeImportEnd 1 (some .int) 0 := ⟨g_tb 614 (by decide +kernel) (by decide +kernel), g_tb 82 (by decide +kernel) rfl, by decide +kernel, by decide +kernel, by decide +kernel, by decide +kernel, by decide⟩
theorem im_X3_takeImportEnd : Cond.instanceMethod yX3_takeImportEnd ∈ gTb ∧ Cond.selects yX3_takeImportEnd.cls yX3_takeImportEnd yX3_takeImportEnd ∈ gTb := ⟨g_tb 613 (by decide +kernel) rfl, g_tb 18 (by decide +kernel) rfl⟩
theorem mf_X3_takeBindName : gMf yX3_takeBindName cX3_takeBindName 4 (some .int) 0 := ⟨g_tb 657 (by decide +kernel) (by decide +kernel), g_tb 82 (by decide +kernel) rfl, by decide +kernel, by decide +kernel, by decide +kernel, by decide +kernel, by decide⟩
theorem im_X3_takeBindName : Cond.instanceMethod yX3_takeBindName ∈ gTb ∧ Cond.selects yX3_takeBindName.cls yX3_takeBindName yX3_takeBindName ∈ gTb := ⟨g_tb 656 (by decide +kernel) rfl, g_tb 26 (by decide +kernel) rfl⟩
theorem mf_X3_takeIn : gMf yX3_takeIn cX3_takeIn 1 (some .int) 0 := ⟨g_tb 625 (by decide +kernel) (by decide +kernel), g_tb 82 (by decide +kernel) rfl, by decide +kernel, by decide +kernel, by decide +kernel, by decide +kernel, by decide⟩
theorem im_X3_takeIn : Cond.instanceMethod yX3_takeIn ∈ gTb ∧ Cond.selects yX3_takeIn.cls yX3_takeIn yX3_takeIn ∈ gTb := ⟨g_tb 624 (by decide +kernel) rfl, g_tb 19 (by decide +kernel) rfl⟩
theorem mf_X3_takeFirstOfLong : gMf yX3_takeFirstOfLong cX3_takeFirstOfLong 1 (some .int) 0 := ⟨g_tb 589 (by decide +kernel) (by decide +kernel), g_tb 82 (by decide +kernel) rfl, by decide +kernel, by decide +kernel, by decide +kernel, by decide +kernel, by decide⟩
theorem im_X3_takeFirstOfLong : Cond.instanceMethod yX3_takeFirstOfLong ∈ gTb ∧ Cond.selects yX3_takeFirstOfLong.cls yX3_takeFirstOfLong yX3_takeFirstOfLong ∈ gTb := ⟨g_tb 588 (by decide +kernel) rfl, g_tb 14 (by decide +kernel) rfl⟩
theorem mf_X3_takeNextOfLong : gMf yX3_takeNextOfLong cX3_takeNextOfLong 3 (some .int) 0 := ⟨g_tb 661 (by decide +kernel) (by decide +kernel), g_tb 82 (by decide +kernel) rfl, by decide +kernel, by decide +kernel, by decide +kernel, by decide +kernel, by decide⟩
theorem im_X3_takeNextOfLong : Cond.instanceMethod yX3_takeNextOfLong ∈ gTb ∧ Cond.selects yX3_takeNextOfLong.cls yX3_takeNextOfLong yX3_takeNextOfLong ∈ gTb := ⟨g_tb 660 (by decide +kernel) rfl, g_tb 27 (by decide +kernel) rfl⟩
theorem mf_X3_declareIn : gMf yX3_declareIn cX3_declareIn 3 (some .int) 2 := ⟨g_tb 653 (by decide +kernel) (by decide +kernel), g_tb 82 (by decide +kernel) rfl, by decide +kernel, by decide +kernel, by decide +kernel, by decide +kernel, by decide⟩
theorem im_X3_declareIn : Cond.instanceMethod yX3_declareIn ∈ gTb ∧ Cond.selects yX3_declareIn.cls yX3_declareIn yX3_declareIn ∈ gTb := ⟨g_tb 652 (by decide +kernel) rfl, g_tb 25 (by decide +kernel) rfl⟩
theorem mf_X3_turnTo : gMf yX3_turnTo cX3_turnTo 2 (some .int) 1 := ⟨g_tb 561 (by decide +kernel) (by decide +kernel), g_tb 82 (by decide +kernel) rfl, by decide +kernel, by decide +kernel, by decide +kernel, by decide +kernel, by decide⟩
theorem im_X3_turnTo : Cond.instanceMethod yX3_turnTo ∈ gTb ∧ Cond.selects yX3_turnTo.cls yX3_turnTo yX3_turnTo ∈ gTb := ⟨g_tb 560 (by decide +kernel) rfl, g_tb 7 (by decide +kernel) rfl⟩
theorem mf_X3_openTo : gMf yX3_openTo cX3_openTo 2 (some .int) 1 := ⟨g_tb 581 (by decide +kernel) (by decide +kernel), g_tb 82 (by decide +kernel) rfl, by decide +kernel, by decide +kernel, by decide +kernel, by decide +kernel, by decide⟩
theorem im_X3_openTo : Cond.instanceMethod yX3_openTo ∈ gTb ∧ Cond.selects yX3_openTo.cls yX3_openTo yX3_openTo ∈ gTb := ⟨g_tb 580 (by decide +kernel) rfl, g_tb 12 (by decide +kernel) rfl⟩
theorem mf_X3_closeTo : gMf yX3_closeTo cX3_closeTo 2 (some .int) 1 := ⟨g_tb 569 (by decide +kernel) (by decide +kernel), g_tb 82 (by decide +kernel) rfl, by decide +kernel, by decide +kernel, by decide +kernel, by decide +kernel, by decide⟩
theorem im_X3_closeTo : Cond.instanceMethod yX3_closeTo ∈ gTb ∧ Cond.selects yX3_closeTo.cls yX3_closeTo yX3_closeTo ∈ gTb := ⟨g_tb 568 (by decide +kernel) rfl, g_tb 9 (by decide +kernel) rfl⟩
theorem mf_X3_popTo : gMf yX3_popTo cX3_popTo 2 (some .int) 1 := ⟨g_tb 573 (by decide +kernel) (by decide +kernel), g_tb 82 (by decide +kernel) rfl, by decide +kernel, by decide +kernel, by decide +kernel, by decide +kernel, by decide⟩
theorem im_X3_popTo : Cond.instanceMethod yX3_popTo ∈ gTb ∧ Cond.selects yX3_popTo.cls yX3_popTo yX3_popTo ∈ gTb := ⟨g_tb 572 (by decide +kernel) rfl, g_tb 10 (by decide +kernel) rfl⟩
theorem mf_X3_push : gMf yX3_push cX3_push 3 none 2 := ⟨g_tb 601 (by decide +kernel) (by decide +kernel), g_tb 82 (by decide +kernel) rfl, by decide +kernel, by decide +kernel, by decide +kernel, by decide +kernel, by decide⟩
theorem im_X3_push : Cond.instanceMethod yX3_push ∈ gTb ∧ Cond.selects yX3_push.cls yX3_push yX3_push ∈ gTb := ⟨g_tb 600 (by decide +kernel) rfl, g_tb 15 (by decide +kernel) rfl⟩
theorem mf_X3_setTop : gMf yX3_setTop cX3_setTop 3 none 2 := ⟨g_tb 633 (by decide +kernel) (by decide +kernel), g_tb 82 (by decide +kernel) rfl, by decide +kernel, by decide +kernel, by decide +kernel, by decide +kernel, by decide⟩
theorem im_X3_setTop : Cond.instanceMethod yX3_setTop ∈ gTb ∧ Cond.selects yX3_setTop.cls yX3_setTop yX3_setTop ∈ gTb := ⟨g_tb 632 (by decide +kernel) rfl, g_tb 21 (by decide +kernel) rfl⟩
theorem mf_X3_topFrame : gMf yX3_topFrame cX3_topFrame 1 (some .int) 0 := ⟨g_tb 565 (by decide +kernel) (by decide +kernel), g_tb 82 (by decide +kernel) rfl, by decide +kernel, by decide +kernel, by decide +kernel, by decide +kernel, by decide⟩
theorem im_X3_topFrame : Cond.instanceMethod yX3_topFrame ∈ gTb ∧ Cond.selects yX3_topFrame.cls yX3_topFrame yX3_topFrame ∈ gTb := ⟨g_tb 564 (by decide +kernel) rfl, g_tb 8 (by decide +kernel) rfl⟩
theorem mf_X3_topOuter : gMf yX3_topOuter cX3_topOuter 1 (some .int) 0 := ⟨g_tb 577 (by decide +kernel) (by decide +kernel), g_tb 82 (by decide +kernel) rfl, by decide +kernel, by decide +kernel, by decide +kernel, by decide +kernel, by decide⟩
theorem im_X3_topOuter : Cond.instanceMethod yX3_topOuter ∈ gTb ∧ Cond.selects yX3_topOuter.cls yX3_topOuter yX3_topOuter ∈ gTb := ⟨g_tb 576 (by decide +kernel) rfl, g_tb 11 (by decide +kernel) rfl⟩
theorem mf_X3_topInner : gMf yX3_topInner cX3_topInner 1 (some .int) 0 := ⟨g_tb 629 (by decide +kernel) (by decide +kernel), g_tb 82 (by decide +kernel) rfl, by decide +kernel, by decide +kernel, by decide +kernel, by decide +kernel, by decide⟩
theorem im_X3_topInner : Cond.instanceMethod yX3_topInner ∈ gTb ∧ Cond.selects yX3_topInner.cls yX3_topInner yX3_topInner ∈ gTb := ⟨g_tb 628 (by decide +kernel) rfl, g_tb 20 (by decide +kernel) rfl⟩
theorem mf_X4_init : gMf yX4_init cX4_init 3 none 2 := ⟨g_tb 336 (by decide +kernel) (by decide +kernel), g_tb 84 (by decide +kernel) rfl, by decide +kernel, by decide +kernel, by decide +kernel, by decide +kernel, by decide⟩
theorem mf_X4_resolve : gMf yX4_resolve cX4_resolve 7 none 2 := ⟨g_tb 677 (by decide +kernel) (by decide +kernel), g_tb 84 (by decide +kernel) rfl, by decide +kernel, by decide +kernel, by decide +kernel, by decide +kernel, by decide⟩
theorem im_X4_resolve : Cond.instanceMethod yX4_resolve ∈ gTb ∧ Cond.selects yX4_resolve.cls yX4_resolve yX4_resolve ∈ gTb := ⟨g_tb 675 (by decide +kernel) rfl, g_tb 676 (by decide +kernel) rfl⟩
theorem mf_X4_keep : gMf yX4_keep cX4_keep 5 none 2 := ⟨g_tb 712 (by decide +kernel) (by decide +kernel), g_tb 84 (by decide +kernel) rfl, by decide +kernel, by decide +kernel, by decide +kernel, by decide +kernel, by decide⟩
theorem im_X4_keep : Cond.instanceMethod yX4_keep ∈ gTb ∧ Cond.selects yX4_keep.cls yX4_keep yX4_keep ∈ gTb := ⟨g_tb 711 (by decide +kernel) rfl, g_tb 33 (by decide +kernel) rfl⟩
theorem mf_X4_followStatements : gMf yX4_followStatements cX4_followStatements 6 none 1 := ⟨g_tb 681 (by decide +kernel) (by decide +kernel), g_tb 84 (by decide +kernel) rfl, by decide +kernel, by decide +kernel, by decide +kernel, by decide +kernel, by decide⟩
theorem im_X4_followStatements : Cond.instanceMethod yX4_followStatements ∈ gTb ∧ Cond.selects yX4_followStatements.cls yX4_followStatements yX4_followStatements ∈ gTb := ⟨g_tb 680 (by decide +kernel) rfl, g_tb 29 (by decide +kernel) rfl⟩
theorem mf_X4_means : gMf yX4_means cX4_means 11 (some .long) 3 := ⟨g_tb 685 (by decide +kernel) (by decide +kernel), g_tb 84 (by decide +kernel) rfl, by decide +kernel, by decide +kernel, by decide +kernel, by decide +kernel, by decide⟩
theorem im_X4_means : Cond.instanceMethod yX4_means ∈ gTb ∧ Cond.selects yX4_means.cls yX4_means yX4_means ∈ gTb := ⟨g_tb 684 (by decide +kernel) rfl, g_tb 30 (by decide +kernel) rfl⟩
theorem mf_X4_local : gMf yX4_local cX4_local 16 (some .long) 3 := ⟨g_tb 702 (by decide +kernel) (by decide +kernel), g_tb 84 (by decide +kernel) rfl, by decide +kernel, by decide +kernel, by decide +kernel, by decide +kernel, by decide⟩
theorem im_X4_local : Cond.instanceMethod yX4_local ∈ gTb ∧ Cond.selects yX4_local.cls yX4_local yX4_local ∈ gTb := ⟨g_tb 701 (by decide +kernel) rfl, g_tb 31 (by decide +kernel) rfl⟩
theorem mf_X4_importedBy : gMf yX4_importedBy cX4_importedBy 7 (some .long) 2 := ⟨g_tb 707 (by decide +kernel) (by decide +kernel), g_tb 84 (by decide +kernel) rfl, by decide +kernel, by decide +kernel, by decide +kernel, by decide +kernel, by decide⟩
theorem im_X4_importedBy : Cond.instanceMethod yX4_importedBy ∈ gTb ∧ Cond.selects yX4_importedBy.cls yX4_importedBy yX4_importedBy ∈ gTb := ⟨g_tb 706 (by decide +kernel) rfl, g_tb 32 (by decide +kernel) rfl⟩
theorem mf_X5_init : gMf yX5_init cX5_init 1 none 0 := ⟨g_tb 111 (by decide +kernel) (by decide +kernel), g_tb 78 (by decide +kernel) rfl, by decide +kernel, by decide +kernel, by decide +kernel, by decide +kernel, by decide⟩
theorem mf_X5_at : gMf yX5_at cX5_at 2 (some .int) 1 := ⟨g_tb 405 (by decide +kernel) (by decide +kernel), g_tb 78 (by decide +kernel) rfl, by decide +kernel, by decide +kernel, by decide +kernel, by decide +kernel, by decide⟩
theorem im_X5_at : Cond.instanceMethod yX5_at ∈ gTb ∧ Cond.selects yX5_at.cls yX5_at yX5_at ∈ gTb := ⟨g_tb 403 (by decide +kernel) rfl, g_tb 404 (by decide +kernel) rfl⟩
theorem mf_X5_add : gMf yX5_add cX5_add 2 none 1 := ⟨g_tb 803 (by decide +kernel) (by decide +kernel), g_tb 78 (by decide +kernel) rfl, by decide +kernel, by decide +kernel, by decide +kernel, by decide +kernel, by decide⟩
theorem im_X5_add : Cond.instanceMethod yX5_add ∈ gTb ∧ Cond.selects yX5_add.cls yX5_add yX5_add ∈ gTb := ⟨g_tb 801 (by decide +kernel) rfl, g_tb 802 (by decide +kernel) rfl⟩
theorem mf_X5_addFour : gMf yX5_addFour cX5_addFour 2 none 1 := ⟨g_tb 799 (by decide +kernel) (by decide +kernel), g_tb 78 (by decide +kernel) rfl, by decide +kernel, by decide +kernel, by decide +kernel, by decide +kernel, by decide⟩
theorem im_X5_addFour : Cond.instanceMethod yX5_addFour ∈ gTb ∧ Cond.selects yX5_addFour.cls yX5_addFour yX5_addFour ∈ gTb := ⟨g_tb 797 (by decide +kernel) rfl, g_tb 798 (by decide +kernel) rfl⟩
theorem mf_X5_addName : gMf yX5_addName cX5_addName 6 none 2 := ⟨g_tb 968 (by decide +kernel) (by decide +kernel), g_tb 78 (by decide +kernel) rfl, by decide +kernel, by decide +kernel, by decide +kernel, by decide +kernel, by decide⟩
theorem im_X5_addName : Cond.instanceMethod yX5_addName ∈ gTb ∧ Cond.selects yX5_addName.cls yX5_addName yX5_addName ∈ gTb := ⟨g_tb 966 (by decide +kernel) rfl, g_tb 967 (by decide +kernel) rfl⟩
theorem mf_X6_init : gMf yX6_init cX6_init 1 none 0 := ⟨g_tb 272 (by decide +kernel) (by decide +kernel), g_tb 83 (by decide +kernel) rfl, by decide +kernel, by decide +kernel, by decide +kernel, by decide +kernel, by decide⟩
theorem mf_X6_begin : gMf yX6_begin cX6_begin 1 none 0 := ⟨g_tb 394 (by decide +kernel) (by decide +kernel), g_tb 83 (by decide +kernel) rfl, by decide +kernel, by decide +kernel, by decide +kernel, by decide +kernel, by decide⟩
theorem im_X6_begin : Cond.instanceMethod yX6_begin ∈ gTb ∧ Cond.selects yX6_begin.cls yX6_begin yX6_begin ∈ gTb := ⟨g_tb 392 (by decide +kernel) rfl, g_tb 393 (by decide +kernel) rfl⟩
theorem mf_X6_advance : gMf yX6_advance cX6_advance 3 none 1 := ⟨g_tb 398 (by decide +kernel) (by decide +kernel), g_tb 83 (by decide +kernel) rfl, by decide +kernel, by decide +kernel, by decide +kernel, by decide +kernel, by decide⟩
theorem im_X6_advance : Cond.instanceMethod yX6_advance ∈ gTb ∧ Cond.selects yX6_advance.cls yX6_advance yX6_advance ∈ gTb := ⟨g_tb 396 (by decide +kernel) rfl, g_tb 397 (by decide +kernel) rfl⟩
theorem mf_X6_areJustOneName : gMf yX6_areJustOneName cX6_areJustOneName 2 (some .boolean) 1 := ⟨g_tb 931 (by decide +kernel) (by decide +kernel), g_tb 83 (by decide +kernel) rfl, by decide +kernel, by decide +kernel, by decide +kernel, by decide +kernel, by decide⟩
theorem im_X6_areJustOneName : Cond.instanceMethod yX6_areJustOneName ∈ gTb ∧ Cond.selects yX6_areJustOneName.cls yX6_areJustOneName yX6_areJustOneName ∈ gTb := ⟨g_tb 929 (by decide +kernel) rfl, g_tb 930 (by decide +kernel) rfl⟩
theorem mf_X6_takeName : gMf yX6_takeName cX6_takeName 3 none 1 := ⟨g_tb 415 (by decide +kernel) (by decide +kernel), g_tb 83 (by decide +kernel) rfl, by decide +kernel, by decide +kernel, by decide +kernel, by decide +kernel, by decide⟩
theorem im_X6_takeName : Cond.instanceMethod yX6_takeName ∈ gTb ∧ Cond.selects yX6_takeName.cls yX6_takeName yX6_takeName ∈ gTb := ⟨g_tb 414 (by decide +kernel) rfl, g_tb 0 (by decide +kernel) rfl⟩
theorem mf_X6_packByte : gMf yX6_packByte cX6_packByte 3 none 2 := ⟨g_tb 425 (by decide +kernel) (by decide +kernel), g_tb 83 (by decide +kernel) rfl, by decide +kernel, by decide +kernel, by decide +kernel, by decide +kernel, by decide⟩
theorem im_X6_packByte : Cond.instanceMethod yX6_packByte ∈ gTb ∧ Cond.selects yX6_packByte.cls yX6_packByte yX6_packByte ∈ gTb := ⟨g_tb 424 (by decide +kernel) rfl, g_tb 1 (by decide +kernel) rfl⟩
theorem mf_X6_takeNumber : gMf yX6_takeNumber cX6_takeNumber 3 none 1 := ⟨g_tb 482 (by decide +kernel) (by decide +kernel), g_tb 83 (by decide +kernel) rfl, by decide +kernel, by decide +kernel, by decide +kernel, by decide +kernel, by decide⟩
theorem im_X6_takeNumber : Cond.instanceMethod yX6_takeNumber ∈ gTb ∧ Cond.selects yX6_takeNumber.cls yX6_takeNumber yX6_takeNumber ∈ gTb := ⟨g_tb 481 (by decide +kernel) rfl, g_tb 4 (by decide +kernel) rfl⟩
theorem mf_X6_wordOrName : gMf yX6_wordOrName cX6_wordOrName 2 (some .int) 0 := ⟨g_tb 429 (by decide +kernel) (by decide +kernel), g_tb 83 (by decide +kernel) rfl, by decide +kernel, by decide +kernel, by decide +kernel, by decide +kernel, by decide⟩
theorem im_X6_wordOrName : Cond.instanceMethod yX6_wordOrName ∈ gTb ∧ Cond.selects yX6_wordOrName.cls yX6_wordOrName yX6_wordOrName ∈ gTb := ⟨g_tb 428 (by decide +kernel) rfl, g_tb 2 (by decide +kernel) rfl⟩
theorem mf_X6_isWord : gMf yX6_isWord cX6_isWord 3 (some .boolean) 1 := ⟨g_tb 433 (by decide +kernel) (by decide +kernel), g_tb 83 (by decide +kernel) rfl, by decide +kernel, by decide +kernel, by decide +kernel, by decide +kernel, by decide⟩
theorem im_X6_isWord : Cond.instanceMethod yX6_isWord ∈ gTb ∧ Cond.selects yX6_isWord.cls yX6_isWord yX6_isWord ∈ gTb := ⟨g_tb 432 (by decide +kernel) rfl, g_tb 3 (by decide +kernel) rfl⟩
theorem mf_X6_behindBlanks : gMf yX6_behindBlanks cX6_behindBlanks 3 (some .int) 2 := ⟨g_tb 401 (by decide +kernel) (by decide +kernel), g_tb 83 (by decide +kernel) rfl, by decide +kernel, by decide +kernel, by decide +kernel, by decide +kernel, by decide⟩
theorem sm_X6_behindBlanks : Cond.static yX6_behindBlanks ∈ gTb := g_tb 400 (by decide +kernel) rfl
theorem mf_X6_isBlank : gMf yX6_isBlank cX6_isBlank 1 (some .boolean) 1 := ⟨g_tb 408 (by decide +kernel) (by decide +kernel), g_tb 83 (by decide +kernel) rfl, by decide +kernel, by decide +kernel, by decide +kernel, by decide +kernel, by decide⟩
theorem sm_X6_isBlank : Cond.static yX6_isBlank ∈ gTb := g_tb 407 (by decide +kernel) rfl
theorem mf_X6_isDigit : gMf yX6_isDigit cX6_isDigit 1 (some .boolean) 1 := ⟨g_tb 421 (by decide +kernel) (by decide +kernel), g_tb 83 (by decide +kernel) rfl, by decide +kernel, by decide +kernel, by decide +kernel, by decide +kernel, by decide⟩
theorem sm_X6_isDigit : Cond.static yX6_isDigit ∈ gTb := g_tb 420 (by decide +kernel) rfl
theorem mf_X6_beginsName : gMf yX6_beginsName cX6_beginsName 1 (some .boolean) 1 := ⟨g_tb 411 (by decide +kernel) (by decide +kernel), g_tb 83 (by decide +kernel) rfl, by decide +kernel, by decide +kernel, by decide +kernel, by decide +kernel, by decide⟩
theorem sm_X6_beginsName : Cond.static yX6_beginsName ∈ gTb := g_tb 410 (by decide +kernel) rfl
theorem mf_X6_isInName : gMf yX6_isInName cX6_isInName 1 (some .boolean) 1 := ⟨g_tb 418 (by decide +kernel) (by decide +kernel), g_tb 83 (by decide +kernel) rfl, by decide +kernel, by decide +kernel, by decide +kernel, by decide +kernel, by decide⟩
theorem sm_X6_isInName : Cond.static yX6_isInName ∈ gTb := g_tb 417 (by decide +kernel) rfl
theorem mf_X7_init : gMf yX7_init cX7_init 1 none 0 := ⟨g_tb 103 (by decide +kernel) (by decide +kernel), g_tb 77 (by decide +kernel) rfl, by decide +kernel, by decide +kernel, by decide +kernel, by decide +kernel, by decide⟩
theorem mf_X7_feed : gMf yX7_feed cX7_feed 6 (some .int) 5 := ⟨g_tb 728 (by decide +kernel) (by decide +kernel), g_tb 77 (by decide +kernel) rfl, by decide +kernel, by decide +kernel, by decide +kernel, by decide +kernel, by decide⟩
theorem im_X7_feed : Cond.instanceMethod yX7_feed ∈ gTb ∧ Cond.selects yX7_feed.cls yX7_feed yX7_feed ∈ gTb := ⟨g_tb 726 (by decide +kernel) rfl, g_tb 727 (by decide +kernel) rfl⟩
theorem mf_X7_end : gMf yX7_end cX7_end 2 none 1 := ⟨g_tb 811 (by decide +kernel) (by decide +kernel), g_tb 77 (by decide +kernel) rfl, by decide +kernel, by decide +kernel, by decide +kernel, by decide +kernel, by decide⟩
theorem im_X7_end : Cond.instanceMethod yX7_end ∈ gTb ∧ Cond.selects yX7_end.cls yX7_end yX7_end ∈ gTb := ⟨g_tb 809 (by decide +kernel) rfl, g_tb 810 (by decide +kernel) rfl⟩
theorem mf_X7_read : gMf yX7_read cX7_read 2 (some .int) 0 := ⟨g_tb 385 (by decide +kernel) (by decide +kernel), g_tb 77 (by decide +kernel) rfl, by decide +kernel, by decide +kernel, by decide +kernel, by decide +kernel, by decide⟩
theorem im_X7_read : Cond.instanceMethod yX7_read ∈ gTb ∧ Cond.selects yX7_read.cls yX7_read yX7_read ∈ gTb := ⟨g_tb 383 (by decide +kernel) rfl, g_tb 384 (by decide +kernel) rfl⟩
theorem mf_X7_fault : gMf yX7_fault cX7_fault 1 (some .int) 0 := ⟨g_tb 720 (by decide +kernel) (by decide +kernel), g_tb 77 (by decide +kernel) rfl, by decide +kernel, by decide +kernel, by decide +kernel, by decide +kernel, by decide⟩
theorem im_X7_fault : Cond.instanceMethod yX7_fault ∈ gTb ∧ Cond.selects yX7_fault.cls yX7_fault yX7_fault ∈ gTb := ⟨g_tb 718 (by decide +kernel) rfl, g_tb 719 (by decide +kernel) rfl⟩
theorem mf_X7_count : gMf yX7_count cX7_count 2 (some .int) 1 := ⟨g_tb 835 (by decide +kernel) (by decide +kernel), g_tb 77 (by decide +kernel) rfl, by decide +kernel, by decide +kernel, by decide +kernel, by decide +kernel, by decide⟩
theorem im_X7_count : Cond.instanceMethod yX7_count ∈ gTb ∧ Cond.selects yX7_count.cls yX7_count yX7_count ∈ gTb := ⟨g_tb 833 (by decide +kernel) rfl, g_tb 834 (by decide +kernel) rfl⟩
theorem mf_X7_scope : gMf yX7_scope cX7_scope 3 (some .int) 2 := ⟨g_tb 867 (by decide +kernel) (by decide +kernel), g_tb 77 (by decide +kernel) rfl, by decide +kernel, by decide +kernel, by decide +kernel, by decide +kernel, by decide⟩
theorem im_X7_scope : Cond.instanceMethod yX7_scope ∈ gTb ∧ Cond.selects yX7_scope.cls yX7_scope yX7_scope ∈ gTb := ⟨g_tb 865 (by decide +kernel) rfl, g_tb 866 (by decide +kernel) rfl⟩
theorem mf_X7_declaration : gMf yX7_declaration cX7_declaration 3 (some .int) 2 := ⟨g_tb 883 (by decide +kernel) (by decide +kernel), g_tb 77 (by decide +kernel) rfl, by decide +kernel, by decide +kernel, by decide +kernel, by decide +kernel, by decide⟩
theorem im_X7_declaration : Cond.instanceMethod yX7_declaration ∈ gTb ∧ Cond.selects yX7_declaration.cls yX7_declaration yX7_declaration ∈ gTb := ⟨g_tb 881 (by decide +kernel) rfl, g_tb 882 (by decide +kernel) rfl⟩
theorem mf_X7_reference : gMf yX7_reference cX7_reference 3 (some .int) 2 := ⟨g_tb 903 (by decide +kernel) (by decide +kernel), g_tb 77 (by decide +kernel) rfl, by decide +kernel, by decide +kernel, by decide +kernel, by decide +kernel, by decide⟩
theorem im_X7_reference : Cond.instanceMethod yX7_reference ∈ gTb ∧ Cond.selects yX7_reference.cls yX7_reference yX7_reference ∈ gTb := ⟨g_tb 901 (by decide +kernel) rfl, g_tb 902 (by decide +kernel) rfl⟩
theorem mf_X7_meant : gMf yX7_meant cX7_meant 6 (some .int) 2 := ⟨g_tb 911 (by decide +kernel) (by decide +kernel), g_tb 77 (by decide +kernel) rfl, by decide +kernel, by decide +kernel, by decide +kernel, by decide +kernel, by decide⟩
theorem im_X7_meant : Cond.instanceMethod yX7_meant ∈ gTb ∧ Cond.selects yX7_meant.cls yX7_meant yX7_meant ∈ gTb := ⟨g_tb 909 (by decide +kernel) rfl, g_tb 910 (by decide +kernel) rfl⟩
theorem mf_X7_friends : gMf yX7_friends cX7_friends 3 (some .boolean) 2 := ⟨g_tb 920 (by decide +kernel) (by decide +kernel), g_tb 77 (by decide +kernel) rfl, by decide +kernel, by decide +kernel, by decide +kernel, by decide +kernel, by decide⟩
theorem im_X7_friends : Cond.instanceMethod yX7_friends ∈ gTb ∧ Cond.selects yX7_friends.cls yX7_friends yX7_friends ∈ gTb := ⟨g_tb 918 (by decide +kernel) rfl, g_tb 919 (by decide +kernel) rfl⟩
theorem mf_X7_rename : gMf yX7_rename cX7_rename 9 (some .int) 1 := ⟨g_tb 927 (by decide +kernel) (by decide +kernel), g_tb 77 (by decide +kernel) rfl, by decide +kernel, by decide +kernel, by decide +kernel, by decide +kernel, by decide⟩
theorem im_X7_rename : Cond.instanceMethod yX7_rename ∈ gTb ∧ Cond.selects yX7_rename.cls yX7_rename yX7_rename ∈ gTb := ⟨g_tb 925 (by decide +kernel) rfl, g_tb 926 (by decide +kernel) rfl⟩
theorem mf_X7_letter : gMf yX7_letter cX7_letter 2 (some .int) 1 := ⟨g_tb 978 (by decide +kernel) (by decide +kernel), g_tb 77 (by decide +kernel) rfl, by decide +kernel, by decide +kernel, by decide +kernel, by decide +kernel, by decide⟩
theorem im_X7_letter : Cond.instanceMethod yX7_letter ∈ gTb ∧ Cond.selects yX7_letter.cls yX7_letter yX7_letter ∈ gTb := ⟨g_tb 976 (by decide +kernel) rfl, g_tb 977 (by decide +kernel) rfl⟩
theorem mf_X7_swapTapes : gMf yX7_swapTapes cX7_swapTapes 2 none 0 := ⟨g_tb 665 (by decide +kernel) (by decide +kernel), g_tb 77 (by decide +kernel) rfl, by decide +kernel, by decide +kernel, by decide +kernel, by decide +kernel, by decide⟩
theorem im_X7_swapTapes : Cond.instanceMethod yX7_swapTapes ∈ gTb ∧ Cond.selects yX7_swapTapes.cls yX7_swapTapes yX7_swapTapes ∈ gTb := ⟨g_tb 664 (by decide +kernel) rfl, g_tb 28 (by decide +kernel) rfl⟩
theorem mf_X7_writeNewText : gMf yX7_writeNewText cX7_writeNewText 12 none 3 := ⟨g_tb 956 (by decide +kernel) (by decide +kernel), g_tb 77 (by decide +kernel) rfl, by decide +kernel, by decide +kernel, by decide +kernel, by decide +kernel, by decide⟩
theorem im_X7_writeNewText : Cond.instanceMethod yX7_writeNewText ∈ gTb ∧ Cond.selects yX7_writeNewText.cls yX7_writeNewText yX7_writeNewText ∈ gTb := ⟨g_tb 955 (by decide +kernel) rfl, g_tb 35 (by decide +kernel) rfl⟩
theorem mf_X7_lowest : gMf yX7_lowest cX7_lowest 2 (some .int) 1 := ⟨g_tb 692 (by decide +kernel) (by decide +kernel), g_tb 77 (by decide +kernel) rfl, by decide +kernel, by decide +kernel, by decide +kernel, by decide +kernel, by decide⟩
theorem sm_X7_lowest : Cond.static yX7_lowest ∈ gTb := g_tb 691 (by decide +kernel) rfl
theorem mf_X7_nameByte : gMf yX7_nameByte cX7_nameByte 5 (some .int) 3 := ⟨g_tb 477 (by decide +kernel) (by decide +kernel), g_tb 77 (by decide +kernel) rfl, by decide +kernel, by decide +kernel, by decide +kernel, by decide +kernel, by decide⟩
theorem sm_X7_nameByte : Cond.static yX7_nameByte ∈ gTb := g_tb 476 (by decide +kernel) rfl
theorem mf_X8_init : gMf yX8_init cX8_init 1 none 0 := ⟨g_tb 984 (by decide +kernel) (by decide +kernel), g_tb 85 (by decide +kernel) rfl, by decide +kernel, by decide +kernel, by decide +kernel, by decide +kernel, by decide⟩
theorem mf_X8_thrown : gMf yX8_thrown cX8_thrown 1 (some .int) 0 := ⟨g_tb 1213 (by decide +kernel) (by decide +kernel), g_tb 85 (by decide +kernel) rfl, by decide +kernel, by decide +kernel, by decide +kernel, by decide +kernel, by decide⟩
theorem im_X8_thrown : Cond.instanceMethod yX8_thrown ∈ gTb ∧ Cond.selects yX8_thrown.cls yX8_thrown yX8_thrown ∈ gTb := ⟨g_tb 1211 (by decide +kernel) rfl, g_tb 1212 (by decide +kernel) rfl⟩
theorem mf_X8_fails : gMf yX8_fails cX8_fails 2 (some .boolean) 1 := ⟨g_tb 1221 (by decide +kernel) (by decide +kernel), g_tb 85 (by decide +kernel) rfl, by decide +kernel, by decide +kernel, by decide +kernel, by decide +kernel, by decide⟩
theorem im_X8_fails : Cond.instanceMethod yX8_fails ∈ gTb ∧ Cond.selects yX8_fails.cls yX8_fails yX8_fails ∈ gTb := ⟨g_tb 1220 (by decide +kernel) rfl, g_tb 36 (by decide +kernel) rfl⟩
theorem mf_X8_feed : gMf yX8_feed cX8_feed 6 (some .int) 5 := ⟨g_tb 1217 (by decide +kernel) (by decide +kernel), g_tb 85 (by decide +kernel) rfl, by decide +kernel, by decide +kernel, by decide +kernel, by decide +kernel, by decide⟩
theorem im_X8_feed : Cond.instanceMethod yX8_feed ∈ gTb ∧ Cond.selects yX8_feed.cls yX8_feed yX8_feed ∈ gTb := ⟨g_tb 1215 (by decide +kernel) rfl, g_tb 1216 (by decide +kernel) rfl⟩
theorem mf_X8_four : gMf yX8_four cX8_four 3 none 1 := ⟨g_tb 1225 (by decide +kernel) (by decide +kernel), g_tb 85 (by decide +kernel) rfl, by decide +kernel, by decide +kernel, by decide +kernel, by decide +kernel, by decide⟩
theorem im_X8_four : Cond.instanceMethod yX8_four ∈ gTb ∧ Cond.selects yX8_four.cls yX8_four yX8_four ∈ gTb := ⟨g_tb 1224 (by decide +kernel) rfl, g_tb 37 (by decide +kernel) rfl⟩
theorem mf_X8_end : gMf yX8_end cX8_end 2 none 1 := ⟨g_tb 1229 (by decide +kernel) (by decide +kernel), g_tb 85 (by decide +kernel) rfl, by decide +kernel, by decide +kernel, by decide +kernel, by decide +kernel, by decide⟩
theorem im_X8_end : Cond.instanceMethod yX8_end ∈ gTb ∧ Cond.selects yX8_end.cls yX8_end yX8_end ∈ gTb := ⟨g_tb 1227 (by decide +kernel) rfl, g_tb 1228 (by decide +kernel) rfl⟩
theorem mf_X8_blame : gMf yX8_blame cX8_blame 3 (some .boolean) 2 := ⟨g_tb 1263 (by decide +kernel) (by decide +kernel), g_tb 85 (by decide +kernel) rfl, by decide +kernel, by decide +kernel, by decide +kernel, by decide +kernel, by decide⟩
theorem im_X8_blame : Cond.instanceMethod yX8_blame ∈ gTb ∧ Cond.selects yX8_blame.cls yX8_blame yX8_blame ∈ gTb := ⟨g_tb 1262 (by decide +kernel) rfl, g_tb 43 (by decide +kernel) rfl⟩
theorem mf_X8_isLetter : gMf yX8_isLetter cX8_isLetter 1 (some .boolean) 1 := ⟨g_tb 1252 (by decide +kernel) (by decide +kernel), g_tb 85 (by decide +kernel) rfl, by decide +kernel, by decide +kernel, by decide +kernel, by decide +kernel, by decide⟩
theorem sm_X8_isLetter : Cond.static yX8_isLetter ∈ gTb := g_tb 1251 (by decide +kernel) rfl
theorem mf_X8_isDigit : gMf yX8_isDigit cX8_isDigit 1 (some .boolean) 1 := ⟨g_tb 1255 (by decide +kernel) (by decide +kernel), g_tb 85 (by decide +kernel) rfl, by decide +kernel, by decide +kernel, by decide +kernel, by decide +kernel, by decide⟩
theorem sm_X8_isDigit : Cond.static yX8_isDigit ∈ gTb := g_tb 1254 (by decide +kernel) rfl
theorem mf_X8_byteAt : gMf yX8_byteAt cX8_byteAt 2 (some .int) 1 := ⟨g_tb 1249 (by decide +kernel) (by decide +kernel), g_tb 85 (by decide +kernel) rfl, by decide +kernel, by decide +kernel, by decide +kernel, by decide +kernel, by decide⟩
theorem im_X8_byteAt : Cond.instanceMethod yX8_byteAt ∈ gTb ∧ Cond.selects yX8_byteAt.cls yX8_byteAt yX8_byteAt ∈ gTb := ⟨g_tb 1248 (by decide +kernel) rfl, g_tb 41 (by decide +kernel) rfl⟩
theorem mf_X8_wordOf : gMf yX8_wordOf cX8_wordOf 8 (some .int) 3 := ⟨g_tb 1259 (by decide +kernel) (by decide +kernel), g_tb 85 (by decide +kernel) rfl, by decide +kernel, by decide +kernel, by decide +kernel, by decide +kernel, by decide⟩
theorem im_X8_wordOf : Cond.instanceMethod yX8_wordOf ∈ gTb ∧ Cond.selects yX8_wordOf.cls yX8_wordOf yX8_wordOf ∈ gTb := ⟨g_tb 1258 (by decide +kernel) rfl, g_tb 42 (by decide +kernel) rfl⟩
theorem mf_X8_next : gMf yX8_next cX8_next 2 (some .boolean) 0 := ⟨g_tb 1245 (by decide +kernel) (by decide +kernel), g_tb 85 (by decide +kernel) rfl, by decide +kernel, by decide +kernel, by decide +kernel, by decide +kernel, by decide⟩
theorem im_X8_next : Cond.instanceMethod yX8_next ∈ gTb ∧ Cond.selects yX8_next.cls yX8_next yX8_next ∈ gTb := ⟨g_tb 1244 (by decide +kernel) rfl, g_tb 40 (by decide +kernel) rfl⟩
theorem mf_X8_is : gMf yX8_is cX8_is 2 (some .boolean) 1 := ⟨g_tb 1283 (by decide +kernel) (by decide +kernel), g_tb 85 (by decide +kernel) rfl, by decide +kernel, by decide +kernel, by decide +kernel, by decide +kernel, by decide⟩
theorem im_X8_is : Cond.instanceMethod yX8_is ∈ gTb ∧ Cond.selects yX8_is.cls yX8_is yX8_is ∈ gTb := ⟨g_tb 1282 (by decide +kernel) rfl, g_tb 48 (by decide +kernel) rfl⟩
theorem mf_X8_newScope : gMf yX8_newScope cX8_newScope 4 (some .boolean) 3 := ⟨g_tb 1279 (by decide +kernel) (by decide +kernel), g_tb 85 (by decide +kernel) rfl, by decide +kernel, by decide +kernel, by decide +kernel, by decide +kernel, by decide⟩
theorem im_X8_newScope : Cond.instanceMethod yX8_newScope ∈ gTb ∧ Cond.selects yX8_newScope.cls yX8_newScope yX8_newScope ∈ gTb := ⟨g_tb 1278 (by decide +kernel) rfl, g_tb 47 (by decide +kernel) rfl⟩
theorem mf_X8_declare : gMf yX8_declare cX8_declare 3 (some .boolean) 2 := ⟨g_tb 1275 (by decide +kernel) (by decide +kernel), g_tb 85 (by decide +kernel) rfl, by decide +kernel, by decide +kernel, by decide +kernel, by decide +kernel, by decide⟩
theorem im_X8_declare : Cond.instanceMethod yX8_declare ∈ gTb ∧ Cond.selects yX8_declare.cls yX8_declare yX8_declare ∈ gTb := ⟨g_tb 1274 (by decide +kernel) rfl, g_tb 46 (by decide +kernel) rfl⟩
theorem mf_X8_bracket : gMf yX8_bracket cX8_bracket 1 (some .boolean) 0 := ⟨g_tb 1287 (by decide +kernel) (by decide +kernel), g_tb 85 (by decide +kernel) rfl, by decide +kernel, by decide +kernel, by decide +kernel, by decide +kernel, by decide⟩
theorem im_X8_bracket : Cond.instanceMethod yX8_bracket ∈ gTb ∧ Cond.selects yX8_bracket.cls yX8_bracket yX8_bracket ∈ gTb := ⟨g_tb 1286 (by decide +kernel) rfl, g_tb 49 (by decide +kernel) rfl⟩
theorem mf_X8_open : gMf yX8_open cX8_open 2 none 1 := ⟨g_tb 1291 (by decide +kernel) (by decide +kernel), g_tb 85 (by decide +kernel) rfl, by decide +kernel, by decide +kernel, by decide +kernel, by decide +kernel, by decide⟩
theorem im_X8_open : Cond.instanceMethod yX8_open ∈ gTb ∧ Cond.selects yX8_open.cls yX8_open yX8_open ∈ gTb := ⟨g_tb 1290 (by decide +kernel) rfl, g_tb 50 (by decide +kernel) rfl⟩
theorem mf_X8_odd : gMf yX8_odd cX8_odd 1 (some .boolean) 0 := ⟨g_tb 1271 (by decide +kernel) (by decide +kernel), g_tb 85 (by decide +kernel) rfl, by decide +kernel, by decide +kernel, by decide +kernel, by decide +kernel, by decide⟩
theorem im_X8_odd : Cond.instanceMethod yX8_odd ∈ gTb ∧ Cond.selects yX8_odd.cls yX8_odd yX8_odd ∈ gTb := ⟨g_tb 1270 (by decide +kernel) rfl, g_tb 45 (by decide +kernel) rfl⟩
theorem mf_X8_readAll : gMf yX8_readAll cX8_readAll 2 (some .boolean) 0 := ⟨g_tb 1241 (by decide +kernel) (by decide +kernel), g_tb 85 (by decide +kernel) rfl, by decide +kernel, by decide +kernel, by decide +kernel, by decide +kernel, by decide⟩
theorem im_X8_readAll : Cond.instanceMethod yX8_readAll ∈ gTb ∧ Cond.selects yX8_readAll.cls yX8_readAll yX8_readAll ∈ gTb := ⟨g_tb 1240 (by decide +kernel) rfl, g_tb 39 (by decide +kernel) rfl⟩
theorem mf_X8_dec : gMf yX8_dec cX8_dec 1 (some .boolean) 0 := ⟨g_tb 1267 (by decide +kernel) (by decide +kernel), g_tb 85 (by decide +kernel) rfl, by decide +kernel, by decide +kernel, by decide +kernel, by decide +kernel, by decide⟩
theorem im_X8_dec : Cond.instanceMethod yX8_dec ∈ gTb ∧ Cond.selects yX8_dec.cls yX8_dec yX8_dec ∈ gTb := ⟨g_tb 1266 (by decide +kernel) rfl, g_tb 44 (by decide +kernel) rfl⟩
theorem mf_X8_readLong : gMf yX8_readLong cX8_readLong 3 (some .boolean) 0 := ⟨g_tb 1295 (by decide +kernel) (by decide +kernel), g_tb 85 (by decide +kernel) rfl, by decide +kernel, by decide +kernel, by decide +kernel, by decide +kernel, by decide⟩
theorem im_X8_readLong : Cond.instanceMethod yX8_readLong ∈ gTb ∧ Cond.selects yX8_readLong.cls yX8_readLong yX8_readLong ∈ gTb := ⟨g_tb 1294 (by decide +kernel) rfl, g_tb 51 (by decide +kernel) rfl⟩
theorem mf_X8_exp : gMf yX8_exp cX8_exp 1 (some .boolean) 0 := ⟨g_tb 1299 (by decide +kernel) (by decide +kernel), g_tb 85 (by decide +kernel) rfl, by decide +kernel, by decide +kernel, by decide +kernel, by decide +kernel, by decide⟩
theorem im_X8_exp : Cond.instanceMethod yX8_exp ∈ gTb ∧ Cond.selects yX8_exp.cls yX8_exp yX8_exp ∈ gTb := ⟨g_tb 1298 (by decide +kernel) rfl, g_tb 52 (by decide +kernel) rfl⟩
theorem mf_X8_fun : gMf yX8_fun cX8_fun 2 (some .boolean) 0 := ⟨g_tb 1303 (by decide +kernel) (by decide +kernel), g_tb 85 (by decide +kernel) rfl, by decide +kernel, by decide +kernel, by decide +kernel, by decide +kernel, by decide⟩
theorem im_X8_fun : Cond.instanceMethod yX8_fun ∈ gTb ∧ Cond.selects yX8_fun.cls yX8_fun yX8_fun ∈ gTb := ⟨g_tb 1302 (by decide +kernel) rfl, g_tb 53 (by decide +kernel) rfl⟩
theorem mf_X8_body : gMf yX8_body cX8_body 2 (some .boolean) 1 := ⟨g_tb 1307 (by decide +kernel) (by decide +kernel), g_tb 85 (by decide +kernel) rfl, by decide +kernel, by decide +kernel, by decide +kernel, by decide +kernel, by decide⟩
theorem im_X8_body : Cond.instanceMethod yX8_body ∈ gTb ∧ Cond.selects yX8_body.cls yX8_body yX8_body ∈ gTb := ⟨g_tb 1306 (by decide +kernel) rfl, g_tb 54 (by decide +kernel) rfl⟩
theorem mf_X8_binds : gMf yX8_binds cX8_binds 2 (some .boolean) 0 := ⟨g_tb 1311 (by decide +kernel) (by decide +kernel), g_tb 85 (by decide +kernel) rfl, by decide +kernel, by decide +kernel, by decide +kernel, by decide +kernel, by decide⟩
theorem im_X8_binds : Cond.instanceMethod yX8_binds ∈ gTb ∧ Cond.selects yX8_binds.cls yX8_binds yX8_binds ∈ gTb := ⟨g_tb 1310 (by decide +kernel) rfl, g_tb 55 (by decide +kernel) rfl⟩
theorem mf_X8_bind : gMf yX8_bind cX8_bind 2 (some .boolean) 0 := ⟨g_tb 1315 (by decide +kernel) (by decide +kernel), g_tb 85 (by decide +kernel) rfl, by decide +kernel, by decide +kernel, by decide +kernel, by decide +kernel, by decide⟩
theorem im_X8_bind : Cond.instanceMethod yX8_bind ∈ gTb ∧ Cond.selects yX8_bind.cls yX8_bind yX8_bind ∈ gTb := ⟨g_tb 1314 (by decide +kernel) rfl, g_tb 56 (by decide +kernel) rfl⟩
theorem mf_X8_ends : gMf yX8_ends cX8_ends 2 (some .boolean) 0 := ⟨g_tb 1319 (by decide +kernel) (by decide +kernel), g_tb 85 (by decide +kernel) rfl, by decide +kernel, by decide +kernel, by decide +kernel, by decide +kernel, by decide⟩
theorem im_X8_ends : Cond.instanceMethod yX8_ends ∈ gTb ∧ Cond.selects yX8_ends.cls yX8_ends yX8_ends ∈ gTb := ⟨g_tb 1318 (by decide +kernel) rfl, g_tb 57 (by decide +kernel) rfl⟩
theorem mf_X8_keep : gMf yX8_keep cX8_keep 2 none 0 := ⟨g_tb 1237 (by decide +kernel) (by decide +kernel), g_tb 85 (by decide +kernel) rfl, by decide +kernel, by decide +kernel, by decide +kernel, by decide +kernel, by decide⟩
theorem im_X8_keep : Cond.instanceMethod yX8_keep ∈ gTb ∧ Cond.selects yX8_keep.cls yX8_keep yX8_keep ∈ gTb := ⟨g_tb 1236 (by decide +kernel) rfl, g_tb 38 (by decide +kernel) rfl⟩
theorem mf_X8_giveBack : gMf yX8_giveBack cX8_giveBack 2 none 0 := ⟨g_tb 1323 (by decide +kernel) (by decide +kernel), g_tb 85 (by decide +kernel) rfl, by decide +kernel, by decide +kernel, by decide +kernel, by decide +kernel, by decide⟩
theorem im_X8_giveBack : Cond.instanceMethod yX8_giveBack ∈ gTb ∧ Cond.selects yX8_giveBack.cls yX8_giveBack yX8_giveBack ∈ gTb := ⟨g_tb 1322 (by decide +kernel) rfl, g_tb 58 (by decide +kernel) rfl⟩
theorem mf_X8_read : gMf yX8_read cX8_read 2 (some .int) 0 := ⟨g_tb 1233 (by decide +kernel) (by decide +kernel), g_tb 85 (by decide +kernel) rfl, by decide +kernel, by decide +kernel, by decide +kernel, by decide +kernel, by decide⟩
theorem im_X8_read : Cond.instanceMethod yX8_read ∈ gTb ∧ Cond.selects yX8_read.cls yX8_read yX8_read ∈ gTb := ⟨g_tb 1231 (by decide +kernel) rfl, g_tb 1232 (by decide +kernel) rfl⟩
theorem mf_X8_takeText : gMf yX8_takeText cX8_takeText 2 none 0 := ⟨g_tb 1327 (by decide +kernel) (by decide +kernel), g_tb 85 (by decide +kernel) rfl, by decide +kernel, by decide +kernel, by decide +kernel, by decide +kernel, by decide⟩
theorem im_X8_takeText : Cond.instanceMethod yX8_takeText ∈ gTb ∧ Cond.selects yX8_takeText.cls yX8_takeText yX8_takeText ∈ gTb := ⟨g_tb 1326 (by decide +kernel) rfl, g_tb 59 (by decide +kernel) rfl⟩
theorem mf_X8_fault : gMf yX8_fault cX8_fault 1 (some .int) 0 := ⟨g_tb 1383 (by decide +kernel) (by decide +kernel), g_tb 85 (by decide +kernel) rfl, by decide +kernel, by decide +kernel, by decide +kernel, by decide +kernel, by decide⟩
theorem im_X8_fault : Cond.instanceMethod yX8_fault ∈ gTb ∧ Cond.selects yX8_fault.cls yX8_fault yX8_fault ∈ gTb := ⟨g_tb 1381 (by decide +kernel) rfl, g_tb 1382 (by decide +kernel) rfl⟩
theorem mf_X8_isSame : gMf yX8_isSame cX8_isSame 7 (some .boolean) 4 := ⟨g_tb 1339 (by decide +kernel) (by decide +kernel), g_tb 85 (by decide +kernel) rfl, by decide +kernel, by decide +kernel, by decide +kernel, by decide +kernel, by decide⟩
theorem im_X8_isSame : Cond.instanceMethod yX8_isSame ∈ gTb ∧ Cond.selects yX8_isSame.cls yX8_isSame yX8_isSame ∈ gTb := ⟨g_tb 1338 (by decide +kernel) rfl, g_tb 62 (by decide +kernel) rfl⟩
theorem mf_X8_nameAt : gMf yX8_nameAt cX8_nameAt 4 (some .int) 2 := ⟨g_tb 1335 (by decide +kernel) (by decide +kernel), g_tb 85 (by decide +kernel) rfl, by decide +kernel, by decide +kernel, by decide +kernel, by decide +kernel, by decide⟩
theorem im_X8_nameAt : Cond.instanceMethod yX8_nameAt ∈ gTb ∧ Cond.selects yX8_nameAt.cls yX8_nameAt yX8_nameAt ∈ gTb := ⟨g_tb 1334 (by decide +kernel) rfl, g_tb 61 (by decide +kernel) rfl⟩
theorem mf_X8_nameAll : gMf yX8_nameAll cX8_nameAll 2 none 0 := ⟨g_tb 1331 (by decide +kernel) (by decide +kernel), g_tb 85 (by decide +kernel) rfl, by decide +kernel, by decide +kernel, by decide +kernel, by decide +kernel, by decide⟩
theorem im_X8_nameAll : Cond.instanceMethod yX8_nameAll ∈ gTb ∧ Cond.selects yX8_nameAll.cls yX8_nameAll yX8_nameAll ∈ gTb := ⟨g_tb 1330 (by decide +kernel) rfl, g_tb 60 (by decide +kernel) rfl⟩
theorem mf_X8_ask : gMf yX8_ask cX8_ask 10 none 6 := ⟨g_tb 1355 (by decide +kernel) (by decide +kernel), g_tb 85 (by decide +kernel) rfl, by decide +kernel, by decide +kernel, by decide +kernel, by decide +kernel, by decide⟩
theorem im_X8_ask : Cond.instanceMethod yX8_ask ∈ gTb ∧ Cond.selects yX8_ask.cls yX8_ask yX8_ask ∈ gTb := ⟨g_tb 1354 (by decide +kernel) rfl, g_tb 66 (by decide +kernel) rfl⟩
theorem mf_X8_says : gMf yX8_says cX8_says 3 none 1 := ⟨g_tb 1370 (by decide +kernel) (by decide +kernel), g_tb 85 (by decide +kernel) rfl, by decide +kernel, by decide +kernel, by decide +kernel, by decide +kernel, by decide⟩
theorem im_X8_says : Cond.instanceMethod yX8_says ∈ gTb ∧ Cond.selects yX8_says.cls yX8_says yX8_says ∈ gTb := ⟨g_tb 1369 (by decide +kernel) rfl, g_tb 69 (by decide +kernel) rfl⟩
theorem mf_X8_here : gMf yX8_here cX8_here 6 (some .long) 2 := ⟨g_tb 1366 (by decide +kernel) (by decide +kernel), g_tb 85 (by decide +kernel) rfl, by decide +kernel, by decide +kernel, by decide +kernel, by decide +kernel, by decide⟩
theorem im_X8_here : Cond.instanceMethod yX8_here ∈ gTb ∧ Cond.selects yX8_here.cls yX8_here yX8_here ∈ gTb := ⟨g_tb 1365 (by decide +kernel) rfl, g_tb 68 (by decide +kernel) rfl⟩
theorem mf_X8_has : gMf yX8_has cX8_has 3 (some .boolean) 2 := ⟨g_tb 1362 (by decide +kernel) (by decide +kernel), g_tb 85 (by decide +kernel) rfl, by decide +kernel, by decide +kernel, by decide +kernel, by decide +kernel, by decide⟩
theorem sm_X8_has : Cond.static yX8_has ∈ gTb := g_tb 1361 (by decide +kernel) rfl
theorem mf_X8_mean : gMf yX8_mean cX8_mean 3 none 1 := ⟨g_tb 1347 (by decide +kernel) (by decide +kernel), g_tb 85 (by decide +kernel) rfl, by decide +kernel, by decide +kernel, by decide +kernel, by decide +kernel, by decide⟩
theorem im_X8_mean : Cond.instanceMethod yX8_mean ∈ gTb ∧ Cond.selects yX8_mean.cls yX8_mean yX8_mean ∈ gTb := ⟨g_tb 1346 (by decide +kernel) rfl, g_tb 64 (by decide +kernel) rfl⟩
theorem mf_X8_askMeans : gMf yX8_askMeans cX8_askMeans 6 none 3 := ⟨g_tb 1351 (by decide +kernel) (by decide +kernel), g_tb 85 (by decide +kernel) rfl, by decide +kernel, by decide +kernel, by decide +kernel, by decide +kernel, by decide⟩
theorem im_X8_askMeans : Cond.instanceMethod yX8_askMeans ∈ gTb ∧ Cond.selects yX8_askMeans.cls yX8_askMeans yX8_askMeans ∈ gTb := ⟨g_tb 1350 (by decide +kernel) rfl, g_tb 65 (by decide +kernel) rfl⟩
theorem mf_X8_visible : gMf yX8_visible cX8_visible 6 none 1 := ⟨g_tb 1359 (by decide +kernel) (by decide +kernel), g_tb 85 (by decide +kernel) rfl, by decide +kernel, by decide +kernel, by decide +kernel, by decide +kernel, by decide⟩
theorem im_X8_visible : Cond.instanceMethod yX8_visible ∈ gTb ∧ Cond.selects yX8_visible.cls yX8_visible yX8_visible ∈ gTb := ⟨g_tb 1358 (by decide +kernel) rfl, g_tb 67 (by decide +kernel) rfl⟩
theorem mf_X8_local : gMf yX8_local cX8_local 5 none 1 := ⟨g_tb 1379 (by decide +kernel) (by decide +kernel), g_tb 85 (by decide +kernel) rfl, by decide +kernel, by decide +kernel, by decide +kernel, by decide +kernel, by decide⟩
theorem im_X8_local : Cond.instanceMethod yX8_local ∈ gTb ∧ Cond.selects yX8_local.cls yX8_local yX8_local ∈ gTb := ⟨g_tb 1378 (by decide +kernel) rfl, g_tb 71 (by decide +kernel) rfl⟩
theorem mf_X8_imports : gMf yX8_imports cX8_imports 4 none 1 := ⟨g_tb 1374 (by decide +kernel) (by decide +kernel), g_tb 85 (by decide +kernel) rfl, by decide +kernel, by decide +kernel, by decide +kernel, by decide +kernel, by decide⟩
theorem im_X8_imports : Cond.instanceMethod yX8_imports ∈ gTb ∧ Cond.selects yX8_imports.cls yX8_imports yX8_imports ∈ gTb := ⟨g_tb 1373 (by decide +kernel) rfl, g_tb 70 (by decide +kernel) rfl⟩
theorem mf_X8_meanAll : gMf yX8_meanAll cX8_meanAll 2 none 0 := ⟨g_tb 1343 (by decide +kernel) (by decide +kernel), g_tb 85 (by decide +kernel) rfl, by decide +kernel, by decide +kernel, by decide +kernel, by decide +kernel, by decide⟩
theorem im_X8_meanAll : Cond.instanceMethod yX8_meanAll ∈ gTb ∧ Cond.selects yX8_meanAll.cls yX8_meanAll yX8_meanAll ∈ gTb := ⟨g_tb 1342 (by decide +kernel) rfl, g_tb 63 (by decide +kernel) rfl⟩
theorem mf_X8_many : gMf yX8_many cX8_many 4 (some .int) 1 := ⟨g_tb 1390 (by decide +kernel) (by decide +kernel), g_tb 85 (by decide +kernel) rfl, by decide +kernel, by decide +kernel, by decide +kernel, by decide +kernel, by decide⟩
theorem sm_X8_many : Cond.static yX8_many ∈ gTb := g_tb 1389 (by decide +kernel) rfl
theorem mf_X8_count : gMf yX8_count cX8_count 4 (some .int) 1 := ⟨g_tb 1387 (by decide +kernel) (by decide +kernel), g_tb 85 (by decide +kernel) rfl, by decide +kernel, by decide +kernel, by decide +kernel, by decide +kernel, by decide⟩
theorem im_X8_count : Cond.instanceMethod yX8_count ∈ gTb ∧ Cond.selects yX8_count.cls yX8_count yX8_count ∈ gTb := ⟨g_tb 1385 (by decide +kernel) rfl, g_tb 1386 (by decide +kernel) rfl⟩
theorem mf_X8_scope : gMf yX8_scope cX8_scope 5 (some .int) 2 := ⟨g_tb 1394 (by decide +kernel) (by decide +kernel), g_tb 85 (by decide +kernel) rfl, by decide +kernel, by decide +kernel, by decide +kernel, by decide +kernel, by decide⟩
theorem im_X8_scope : Cond.instanceMethod yX8_scope ∈ gTb ∧ Cond.selects yX8_scope.cls yX8_scope yX8_scope ∈ gTb := ⟨g_tb 1392 (by decide +kernel) rfl, g_tb 1393 (by decide +kernel) rfl⟩
theorem mf_X8_friendsOf : gMf yX8_friendsOf cX8_friendsOf 8 (some .long) 1 := ⟨g_tb 1402 (by decide +kernel) (by decide +kernel), g_tb 85 (by decide +kernel) rfl, by decide +kernel, by decide +kernel, by decide +kernel, by decide +kernel, by decide⟩
theorem im_X8_friendsOf : Cond.instanceMethod yX8_friendsOf ∈ gTb ∧ Cond.selects yX8_friendsOf.cls yX8_friendsOf yX8_friendsOf ∈ gTb := ⟨g_tb 1401 (by decide +kernel) rfl, g_tb 72 (by decide +kernel) rfl⟩
theorem mf_X8_declaration : gMf yX8_declaration cX8_declaration 5 (some .int) 2 := ⟨g_tb 1398 (by decide +kernel) (by decide +kernel), g_tb 85 (by decide +kernel) rfl, by decide +kernel, by decide +kernel, by decide +kernel, by decide +kernel, by decide⟩
theorem im_X8_declaration : Cond.instanceMethod yX8_declaration ∈ gTb ∧ Cond.selects yX8_declaration.cls yX8_declaration yX8_declaration ∈ gTb := ⟨g_tb 1396 (by decide +kernel) rfl, g_tb 1397 (by decide +kernel) rfl⟩
theorem mf_X8_reference : gMf yX8_reference cX8_reference 3 (some .int) 2 := ⟨g_tb 1406 (by decide +kernel) (by decide +kernel), g_tb 85 (by decide +kernel) rfl, by decide +kernel, by decide +kernel, by decide +kernel, by decide +kernel, by decide⟩
theorem im_X8_reference : Cond.instanceMethod yX8_reference ∈ gTb ∧ Cond.selects yX8_reference.cls yX8_reference yX8_reference ∈ gTb := ⟨g_tb 1404 (by decide +kernel) rfl, g_tb 1405 (by decide +kernel) rfl⟩
theorem mf_X8_meant : gMf yX8_meant cX8_meant 6 (some .int) 2 := ⟨g_tb 1410 (by decide +kernel) (by decide +kernel), g_tb 85 (by decide +kernel) rfl, by decide +kernel, by decide +kernel, by decide +kernel, by decide +kernel, by decide⟩
theorem im_X8_meant : Cond.instanceMethod yX8_meant ∈ gTb ∧ Cond.selects yX8_meant.cls yX8_meant yX8_meant ∈ gTb := ⟨g_tb 1408 (by decide +kernel) rfl, g_tb 1409 (by decide +kernel) rfl⟩
theorem mf_X8_friends : gMf yX8_friends cX8_friends 3 (some .boolean) 2 := ⟨g_tb 1414 (by decide +kernel) (by decide +kernel), g_tb 85 (by decide +kernel) rfl, by decide +kernel, by decide +kernel, by decide +kernel, by decide +kernel, by decide⟩
theorem im_X8_friends : Cond.instanceMethod yX8_friends ∈ gTb ∧ Cond.selects yX8_friends.cls yX8_friends yX8_friends ∈ gTb := ⟨g_tb 1412 (by decide +kernel) rfl, g_tb 1413 (by decide +kernel) rfl⟩
theorem mf_X8_isName : gMf yX8_isName cX8_isName 3 (some .boolean) 0 := ⟨g_tb 1422 (by decide +kernel) (by decide +kernel), g_tb 85 (by decide +kernel) rfl, by decide +kernel, by decide +kernel, by decide +kernel, by decide +kernel, by decide⟩
theorem im_X8_isName : Cond.instanceMethod yX8_isName ∈ gTb ∧ Cond.selects yX8_isName.cls yX8_isName yX8_isName ∈ gTb := ⟨g_tb 1421 (by decide +kernel) rfl, g_tb 73 (by decide +kernel) rfl⟩
theorem mf_X8_isTape : gMf yX8_isTape cX8_isTape 5 (some .boolean) 2 := ⟨g_tb 1426 (by decide +kernel) (by decide +kernel), g_tb 85 (by decide +kernel) rfl, by decide +kernel, by decide +kernel, by decide +kernel, by decide +kernel, by decide⟩
theorem im_X8_isTape : Cond.instanceMethod yX8_isTape ∈ gTb ∧ Cond.selects yX8_isTape.cls yX8_isTape yX8_isTape ∈ gTb := ⟨g_tb 1425 (by decide +kernel) rfl, g_tb 74 (by decide +kernel) rfl⟩
theorem mf_X8_rename : gMf yX8_rename cX8_rename 8 (some .int) 1 := ⟨g_tb 1418 (by decide +kernel) (by decide +kernel), g_tb 85 (by decide +kernel) rfl, by decide +kernel, by decide +kernel, by decide +kernel, by decide +kernel, by decide⟩
theorem im_X8_rename : Cond.instanceMethod yX8_rename ∈ gTb ∧ Cond.selects yX8_rename.cls yX8_rename yX8_rename ∈ gTb := ⟨g_tb 1416 (by decide +kernel) rfl, g_tb 1417 (by decide +kernel) rfl⟩
theorem mf_X8_build : gMf yX8_build cX8_build 7 (some .boolean) 1 := ⟨g_tb 1430 (by decide +kernel) (by decide +kernel), g_tb 85 (by decide +kernel) rfl, by decide +kernel, by decide +kernel, by decide +kernel, by decide +kernel, by decide⟩
theorem im_X8_build : Cond.instanceMethod yX8_build ∈ gTb ∧ Cond.selects yX8_build.cls yX8_build yX8_build ∈ gTb := ⟨g_tb 1429 (by decide +kernel) rfl, g_tb 75 (by decide +kernel) rfl⟩
theorem mf_X8_letter : gMf yX8_letter cX8_letter 2 (some .int) 1 := ⟨g_tb 1434 (by decide +kernel) (by decide +kernel), g_tb 85 (by decide +kernel) rfl, by decide +kernel, by decide +kernel, by decide +kernel, by decide +kernel, by decide⟩
theorem im_X8_letter : Cond.instanceMethod yX8_letter ∈ gTb ∧ Cond.selects yX8_letter.cls yX8_letter yX8_letter ∈ gTb := ⟨g_tb 1432 (by decide +kernel) rfl, g_tb 1433 (by decide +kernel) rfl⟩
theorem mf_J13_bitCount_95d88 : gMf yJ13_bitCount_95d88 cJ13_bitCount_95d88 2 (some .int) 1 := ⟨g_tb 695 (by decide +kernel) (by decide +kernel), g_tb 97 (by decide +kernel) rfl, by decide +kernel, by decide +kernel, by decide +kernel, by decide +kernel, by decide⟩
theorem sm_J13_bitCount_95d88 : Cond.static yJ13_bitCount_95d88 ∈ gTb := g_tb 694 (by decide +kernel) rfl
theorem mf_J0_charAt_5068e : gMf yJ0_charAt_5068e cJ0_charAt_5068e 2 (some .char) 1 := ⟨g_tb 438 (by decide +kernel) (by decide +kernel), g_tb 91 (by decide +kernel) rfl, by decide +kernel, by decide +kernel, by decide +kernel, by decide +kernel, by decide⟩
theorem im_J0_charAt_5068e : Cond.instanceMethod yJ0_charAt_5068e ∈ gTb ∧ Cond.selects yJ0_charAt_5068e.cls yJ0_charAt_5068e yJ0_charAt_5068e ∈ gTb := ⟨g_tb 436 (by decide +kernel) rfl, g_tb 437 (by decide +kernel) rfl⟩
theorem mf_J0_indexOf_0f7a4 : gMf yJ0_indexOf_0f7a4 cJ0_indexOf_0f7a4 2 (some .int) 1 := ⟨g_tb 487 (by decide +kernel) (by decide +kernel), g_tb 91 (by decide +kernel) rfl, by decide +kernel, by decide +kernel, by decide +kernel, by decide +kernel, by decide⟩
theorem im_J0_indexOf_0f7a4 : Cond.instanceMethod yJ0_indexOf_0f7a4 ∈ gTb ∧ Cond.selects yJ0_indexOf_0f7a4.cls yJ0_indexOf_0f7a4 yJ0_indexOf_0f7a4 ∈ gTb := ⟨g_tb 485 (by decide +kernel) rfl, g_tb 486 (by decide +kernel) rfl⟩
theorem mf_J0_indexOf_7cf53 : gMf yJ0_indexOf_7cf53 cJ0_indexOf_7cf53 3 (some .int) 2 := ⟨g_tb 491 (by decide +kernel) (by decide +kernel), g_tb 91 (by decide +kernel) rfl, by decide +kernel, by decide +kernel, by decide +kernel, by decide +kernel, by decide⟩
theorem im_J0_indexOf_7cf53 : Cond.instanceMethod yJ0_indexOf_7cf53 ∈ gTb ∧ Cond.selects yJ0_indexOf_7cf53.cls yJ0_indexOf_7cf53 yJ0_indexOf_7cf53 ∈ gTb := ⟨g_tb 489 (by decide +kernel) rfl, g_tb 490 (by decide +kernel) rfl⟩
theorem mf_J0_isLatin1_aae02 : gMf yJ0_isLatin1_aae02 cJ0_isLatin1_aae02 1 (some .boolean) 0 := ⟨g_tb 442 (by decide +kernel) (by decide +kernel), g_tb 91 (by decide +kernel) rfl, by decide +kernel, by decide +kernel, by decide +kernel, by decide +kernel, by decide⟩
theorem im_J0_isLatin1_aae02 : Cond.instanceMethod yJ0_isLatin1_aae02 ∈ gTb ∧ Cond.selects yJ0_isLatin1_aae02.cls yJ0_isLatin1_aae02 yJ0_isLatin1_aae02 ∈ gTb := ⟨g_tb 440 (by decide +kernel) rfl, g_tb 441 (by decide +kernel) rfl⟩
theorem mf_J1_charAt_3b067 : gMf yJ1_charAt_3b067 cJ1_charAt_3b067 2 (some .char) 2 := ⟨g_tb 447 (by decide +kernel) (by decide +kernel), g_tb 92 (by decide +kernel) rfl, by decide +kernel, by decide +kernel, by decide +kernel, by decide +kernel, by decide⟩
theorem sm_J1_charAt_3b067 : Cond.static yJ1_charAt_3b067 ∈ gTb := g_tb 446 (by decide +kernel) rfl
theorem mf_J1_canEncode_9a6ad : gMf yJ1_canEncode_9a6ad cJ1_canEncode_9a6ad 1 (some .boolean) 1 := ⟨g_tb 505 (by decide +kernel) (by decide +kernel), g_tb 92 (by decide +kernel) rfl, by decide +kernel, by decide +kernel, by decide +kernel, by decide +kernel, by decide⟩
theorem sm_J1_canEncode_9a6ad : Cond.static yJ1_canEncode_9a6ad ∈ gTb := g_tb 504 (by decide +kernel) rfl
theorem mf_J1_indexOf_4cfef : gMf yJ1_indexOf_4cfef cJ1_indexOf_4cfef 4 (some .int) 4 := ⟨g_tb 502 (by decide +kernel) (by decide +kernel), g_tb 92 (by decide +kernel) rfl, by decide +kernel, by decide +kernel, by decide +kernel, by decide +kernel, by decide⟩
theorem sm_J1_indexOf_4cfef : Cond.static yJ1_indexOf_4cfef ∈ gTb := g_tb 501 (by decide +kernel) rfl
theorem mf_J1_indexOfChar_4cfef : gMf yJ1_indexOfChar_4cfef cJ1_indexOfChar_4cfef 6 (some .int) 4 := ⟨g_tb 514 (by decide +kernel) (by decide +kernel), g_tb 92 (by decide +kernel) rfl, by decide +kernel, by decide +kernel, by decide +kernel, by decide +kernel, by decide⟩
theorem sm_J1_indexOfChar_4cfef : Cond.static yJ1_indexOfChar_4cfef ∈ gTb := g_tb 513 (by decide +kernel) rfl
theorem lm_ScopeGraph_21 : Cond.methodLink RX7 21 yX2_init ∈ gTb ∨ ∃ host, Cond.methodLinkNest RX7 21 yX2_init host ∈ gNb := Or.inl (g_tb 125 (by decide +kernel) rfl)
theorem lm_ScopeGraph_41 : Cond.methodLink RX7 41 yX3_init ∈ gTb ∨ ∃ host, Cond.methodLinkNest RX7 41 yX3_init host ∈ gNb := Or.inl (g_tb 264 (by decide +kernel) rfl)
theorem lm_ScopeGraph_50 : Cond.methodLink RX7 50 yX4_init ∈ gTb ∨ ∃ host, Cond.methodLinkNest RX7 50 yX4_init host ∈ gNb := Or.inl (g_tb 334 (by decide +kernel) rfl)
theorem lm_ScopeGraph_71 : Cond.methodLink RX7 71 yX5_addFour ∈ gTb ∨ ∃ host, Cond.methodLinkNest RX7 71 yX5_addFour host ∈ gNb := Or.inl (g_tb 796 (by decide +kernel) rfl)
theorem lm_ScopeGraph_80 : Cond.methodLink RX7 80 yX3_parse ∈ gTb ∨ ∃ host, Cond.methodLinkNest RX7 80 yX3_parse host ∈ gNb := Or.inl (g_tb 386 (by decide +kernel) rfl)
theorem lm_ScopeGraph_84 : Cond.methodLink RX7 84 yX7_swapTapes ∈ gTb ∨ ∃ host, Cond.methodLinkNest RX7 84 yX7_swapTapes host ∈ gNb := Or.inl (g_tb 662 (by decide +kernel) rfl)
theorem lm_ScopeGraph_87 : Cond.methodLink RX7 87 yX1_compareNames ∈ gTb ∨ ∃ host, Cond.methodLinkNest RX7 87 yX1_compareNames host ∈ gNb := Or.inl (g_tb 666 (by decide +kernel) rfl)
theorem lm_ScopeGraph_90 : Cond.methodLink RX7 90 yX4_resolve ∈ gTb ∨ ∃ host, Cond.methodLinkNest RX7 90 yX4_resolve host ∈ gNb := Or.inl (g_tb 674 (by decide +kernel) rfl)
theorem lm_ScopeGraph_96 : Cond.methodLink RX7 96 yX3_place ∈ gTb ∨ ∃ host, Cond.methodLinkNest RX7 96 yX3_place host ∈ gNb := Or.inl (g_tb 713 (by decide +kernel) rfl)
theorem lm_ScopeGraph_110 : Cond.methodLink RX7 110 yX2_importsInAll ∈ gTb ∨ ∃ host, Cond.methodLinkNest RX7 110 yX2_importsInAll host ∈ gNb := Or.inl (g_tb 836 (by decide +kernel) rfl)
theorem lm_ScopeGraph_113 : Cond.methodLink RX7 113 yX1_howManyMean ∈ gTb ∨ ∃ host, Cond.methodLinkNest RX7 113 yX1_howManyMean host ∈ gNb := Or.inl (g_tb 840 (by decide +kernel) rfl)
theorem lm_ScopeGraph_135 : Cond.methodLink RX7 135 yJ13_bitCount_95d88 ∈ gTb ∨ ∃ host, Cond.methodLinkNest RX7 135 yJ13_bitCount_95d88 host ∈ gNb := Or.inl (g_tb 693 (by decide +kernel) rfl)
theorem lm_ScopeGraph_141 : Cond.methodLink RX7 141 yX2_referencesIn ∈ gTb ∨ ∃ host, Cond.methodLinkNest RX7 141 yX2_referencesIn host ∈ gNb := Or.inl (g_tb 869 (by decide +kernel) rfl)
theorem lm_ScopeGraph_145 : Cond.methodLink RX7 145 yX2_importsOf ∈ gTb ∨ ∃ host, Cond.methodLinkNest RX7 145 yX2_importsOf host ∈ gNb := Or.inl (g_tb 873 (by decide +kernel) rfl)
theorem lm_ScopeGraph_148 : Cond.methodLink RX7 148 yX0_has ∈ gTb ∨ ∃ host, Cond.methodLinkNest RX7 148 yX0_has host ∈ gNb := Or.inl (g_tb 884 (by decide +kernel) rfl)
theorem lm_ScopeGraph_162 : Cond.methodLink RX7 162 yX1_friendsOf ∈ gTb ∨ ∃ host, Cond.methodLinkNest RX7 162 yX1_friendsOf host ∈ gNb := Or.inl (g_tb 889 (by decide +kernel) rfl)
theorem lm_ScopeGraph_166 : Cond.methodLink RX7 166 yX1_usersOf ∈ gTb ∨ ∃ host, Cond.methodLinkNest RX7 166 yX1_usersOf host ∈ gNb := Or.inl (g_tb 893 (by decide +kernel) rfl)
theorem lm_ScopeGraph_186 : Cond.methodLink RX7 186 yX7_lowest ∈ gTb ∨ ∃ host, Cond.methodLinkNest RX7 186 yX7_lowest host ∈ gNb := Or.inl (g_tb 913 (by decide +kernel) rfl)
theorem lm_ScopeGraph_193 : Cond.methodLink RX7 193 yX6_areJustOneName ∈ gTb ∨ ∃ host, Cond.methodLinkNest RX7 193 yX6_areJustOneName host ∈ gNb := Or.inl (g_tb 928 (by decide +kernel) rfl)
theorem lm_ScopeGraph_199 : Cond.methodLink RX7 199 yX1_supposeName ∈ gTb ∨ ∃ host, Cond.methodLinkNest RX7 199 yX1_supposeName host ∈ gNb := Or.inl (g_tb 934 (by decide +kernel) rfl)
theorem lm_ScopeGraph_203 : Cond.methodLink RX7 203 yX1_agreesWith ∈ gTb ∨ ∃ host, Cond.methodLinkNest RX7 203 yX1_agreesWith host ∈ gNb := Or.inl (g_tb 944 (by decide +kernel) rfl)
theorem lm_ScopeGraph_207 : Cond.methodLink RX7 207 yX0_lengthOf ∈ gTb ∨ ∃ host, Cond.methodLinkNest RX7 207 yX0_lengthOf host ∈ gNb := Or.inl (g_tb 948 (by decide +kernel) rfl)
theorem lm_ScopeGraph_213 : Cond.methodLink RX7 213 yX7_writeNewText ∈ gTb ∨ ∃ host, Cond.methodLinkNest RX7 213 yX7_writeNewText host ∈ gNb := Or.inl (g_tb 953 (by decide +kernel) rfl)
theorem lm_ScopeGraph_219 : Cond.methodLink RX7 219 yX5_at ∈ gTb ∨ ∃ host, Cond.methodLinkNest RX7 219 yX5_at host ∈ gNb := Or.inl (g_tb 970 (by decide +kernel) rfl)
theorem lm_ScopeGraph_222 : Cond.methodLink RX7 222 yX0_standsAt ∈ gTb ∨ ∃ host, Cond.methodLinkNest RX7 222 yX0_standsAt host ∈ gNb := Or.inl (g_tb 957 (by decide +kernel) rfl)
theorem lm_ScopeGraph_226 : Cond.methodLink RX7 226 yX0_move ∈ gTb ∨ ∃ host, Cond.methodLinkNest RX7 226 yX0_move host ∈ gNb := Or.inl (g_tb 961 (by decide +kernel) rfl)
theorem lm_ScopeGraph_237 : Cond.methodLink RX7 237 yX5_addName ∈ gTb ∨ ∃ host, Cond.methodLinkNest RX7 237 yX5_addName host ∈ gNb := Or.inl (g_tb 965 (by decide +kernel) rfl)
theorem lm_ScopeGraph_241 : Cond.methodLink RX7 241 yX5_add ∈ gTb ∨ ∃ host, Cond.methodLinkNest RX7 241 yX5_add host ∈ gNb := Or.inl (g_tb 971 (by decide +kernel) rfl)
theorem lm_ScopeGraph_Marks_41 : Cond.methodLink RX0 41 yX0_has ∈ gTb ∨ ∃ host, Cond.methodLinkNest RX0 41 yX0_has host ∈ gNb := Or.inl (g_tb 942 (by decide +kernel) rfl)
theorem lm_ScopeGraph_Meaning_46 : Cond.methodLink RX1 46 yX0_named ∈ gTb ∨ ∃ host, Cond.methodLinkNest RX1 46 yX0_named host ∈ gNb := Or.inl (g_tb 670 (by decide +kernel) rfl)
theorem lm_ScopeGraph_Meaning_59 : Cond.methodLink RX1 59 yX0_isNamed ∈ gTb ∨ ∃ host, Cond.methodLinkNest RX1 59 yX0_isNamed host ∈ gNb := Or.inl (g_tb 938 (by decide +kernel) rfl)
theorem lm_ScopeGraph_Meaning_65 : Cond.methodLink RX1 65 yJ13_bitCount_95d88 ∈ gTb ∨ ∃ host, Cond.methodLinkNest RX1 65 yJ13_bitCount_95d88 host ∈ gNb := Or.inl (g_tb 844 (by decide +kernel) rfl)
theorem lm_ScopeGraph_Program_11 : Cond.methodLink RX2 11 yX0_init ∈ gTb ∨ ∃ host, Cond.methodLinkNest RX2 11 yX0_init host ∈ gNb := Or.inl (g_tb 131 (by decide +kernel) rfl)
theorem lm_ScopeGraph_Program_52 : Cond.methodLink RX2 52 yX2_empty ∈ gTb ∨ ∃ host, Cond.methodLinkNest RX2 52 yX2_empty host ∈ gNb := Or.inl (g_tb 164 (by decide +kernel) rfl)
theorem lm_ScopeGraph_Program_65 : Cond.methodLink RX2 65 yX2_makeScope ∈ gTb ∨ ∃ host, Cond.methodLinkNest RX2 65 yX2_makeScope host ∈ gNb := Or.inl (g_tb 168 (by decide +kernel) rfl)
theorem lm_ScopeGraph_Program_69 : Cond.methodLink RX2 69 yX0_add ∈ gTb ∨ ∃ host, Cond.methodLinkNest RX2 69 yX0_add host ∈ gNb := Or.inl (g_tb 594 (by decide +kernel) rfl)
theorem lm_ScopeGraph_Reader_32 : Cond.methodLink RX3 32 yX2_empty ∈ gTb ∨ ∃ host, Cond.methodLinkNest RX3 32 yX2_empty host ∈ gNb := Or.inl (g_tb 390 (by decide +kernel) rfl)
theorem lm_ScopeGraph_Reader_37 : Cond.methodLink RX3 37 yX6_begin ∈ gTb ∨ ∃ host, Cond.methodLinkNest RX3 37 yX6_begin host ∈ gNb := Or.inl (g_tb 391 (by decide +kernel) rfl)
theorem lm_ScopeGraph_Reader_53 : Cond.methodLink RX3 53 yX6_advance ∈ gTb ∨ ∃ host, Cond.methodLinkNest RX3 53 yX6_advance host ∈ gNb := Or.inl (g_tb 395 (by decide +kernel) rfl)
theorem lm_ScopeGraph_Reader_60 : Cond.methodLink RX3 60 yX3_take ∈ gTb ∨ ∃ host, Cond.methodLinkNest RX3 60 yX3_take host ∈ gNb := Or.inl (g_tb 550 (by decide +kernel) rfl)
theorem lm_ScopeGraph_Reader_67 : Cond.methodLink RX3 67 yX3_takeDec ∈ gTb ∨ ∃ host, Cond.methodLinkNest RX3 67 yX3_takeDec host ∈ gNb := Or.inl (g_tb 554 (by decide +kernel) rfl)
theorem lm_ScopeGraph_Reader_70 : Cond.methodLink RX3 70 yX3_turnTo ∈ gTb ∨ ∃ host, Cond.methodLinkNest RX3 70 yX3_turnTo host ∈ gNb := Or.inl (g_tb 558 (by decide +kernel) rfl)
theorem lm_ScopeGraph_Reader_73 : Cond.methodLink RX3 73 yX3_openTo ∈ gTb ∨ ∃ host, Cond.methodLinkNest RX3 73 yX3_openTo host ∈ gNb := Or.inl (g_tb 578 (by decide +kernel) rfl)
theorem lm_ScopeGraph_Reader_76 : Cond.methodLink RX3 76 yX3_takeAtom ∈ gTb ∨ ∃ host, Cond.methodLinkNest RX3 76 yX3_takeAtom host ∈ gNb := Or.inl (g_tb 582 (by decide +kernel) rfl)
theorem lm_ScopeGraph_Reader_79 : Cond.methodLink RX3 79 yX3_takeBehindAtom ∈ gTb ∨ ∃ host, Cond.methodLinkNest RX3 79 yX3_takeBehindAtom host ∈ gNb := Or.inl (g_tb 607 (by decide +kernel) rfl)
theorem lm_ScopeGraph_Reader_82 : Cond.methodLink RX3 82 yX3_takeName ∈ gTb ∨ ∃ host, Cond.methodLinkNest RX3 82 yX3_takeName host ∈ gNb := Or.inl (g_tb 634 (by decide +kernel) rfl)
theorem lm_ScopeGraph_Reader_86 : Cond.methodLink RX3 86 yX3_topFrame ∈ gTb ∨ ∃ host, Cond.methodLinkNest RX3 86 yX3_topFrame host ∈ gNb := Or.inl (g_tb 562 (by decide +kernel) rfl)
theorem lm_ScopeGraph_Reader_89 : Cond.methodLink RX3 89 yX3_closeTo ∈ gTb ∨ ∃ host, Cond.methodLinkNest RX3 89 yX3_closeTo host ∈ gNb := Or.inl (g_tb 566 (by decide +kernel) rfl)
theorem lm_ScopeGraph_Reader_92 : Cond.methodLink RX3 92 yX3_takeFirstOfLong ∈ gTb ∨ ∃ host, Cond.methodLinkNest RX3 92 yX3_takeFirstOfLong host ∈ gNb := Or.inl (g_tb 586 (by decide +kernel) rfl)
theorem lm_ScopeGraph_Reader_95 : Cond.methodLink RX3 95 yX3_push ∈ gTb ∨ ∃ host, Cond.methodLinkNest RX3 95 yX3_push host ∈ gNb := Or.inl (g_tb 598 (by decide +kernel) rfl)
theorem lm_ScopeGraph_Reader_99 : Cond.methodLink RX3 99 yX3_takeScopeWord ∈ gTb ∨ ∃ host, Cond.methodLinkNest RX3 99 yX3_takeScopeWord host ∈ gNb := Or.inl (g_tb 602 (by decide +kernel) rfl)
theorem lm_ScopeGraph_Reader_103 : Cond.methodLink RX3 103 yX2_makeScope ∈ gTb ∨ ∃ host, Cond.methodLinkNest RX3 103 yX2_makeScope host ∈ gNb := Or.inl (g_tb 606 (by decide +kernel) rfl)
theorem lm_ScopeGraph_Reader_106 : Cond.methodLink RX3 106 yX3_takeImportEnd ∈ gTb ∨ ∃ host, Cond.methodLinkNest RX3 106 yX3_takeImportEnd host ∈ gNb := Or.inl (g_tb 611 (by decide +kernel) rfl)
theorem lm_ScopeGraph_Reader_109 : Cond.methodLink RX3 109 yX3_popTo ∈ gTb ∨ ∃ host, Cond.methodLinkNest RX3 109 yX3_popTo host ∈ gNb := Or.inl (g_tb 570 (by decide +kernel) rfl)
theorem lm_ScopeGraph_Reader_112 : Cond.methodLink RX3 112 yX3_hasBinds ∈ gTb ∨ ∃ host, Cond.methodLinkNest RX3 112 yX3_hasBinds host ∈ gNb := Or.inl (g_tb 619 (by decide +kernel) rfl)
theorem lm_ScopeGraph_Reader_116 : Cond.methodLink RX3 116 yX3_takeIn ∈ gTb ∨ ∃ host, Cond.methodLinkNest RX3 116 yX3_takeIn host ∈ gNb := Or.inl (g_tb 622 (by decide +kernel) rfl)
theorem lm_ScopeGraph_Reader_119 : Cond.methodLink RX3 119 yX3_takeModuleName ∈ gTb ∨ ∃ host, Cond.methodLinkNest RX3 119 yX3_takeModuleName host ∈ gNb := Or.inl (g_tb 638 (by decide +kernel) rfl)
theorem lm_ScopeGraph_Reader_122 : Cond.methodLink RX3 122 yX3_takeImportName ∈ gTb ∨ ∃ host, Cond.methodLinkNest RX3 122 yX3_takeImportName host ∈ gNb := Or.inl (g_tb 646 (by decide +kernel) rfl)
theorem lm_ScopeGraph_Reader_125 : Cond.methodLink RX3 125 yX3_declareIn ∈ gTb ∨ ∃ host, Cond.methodLinkNest RX3 125 yX3_declareIn host ∈ gNb := Or.inl (g_tb 650 (by decide +kernel) rfl)
theorem lm_ScopeGraph_Reader_128 : Cond.methodLink RX3 128 yX3_topInner ∈ gTb ∨ ∃ host, Cond.methodLinkNest RX3 128 yX3_topInner host ∈ gNb := Or.inl (g_tb 626 (by decide +kernel) rfl)
theorem lm_ScopeGraph_Reader_131 : Cond.methodLink RX3 131 yX3_takeBindName ∈ gTb ∨ ∃ host, Cond.methodLinkNest RX3 131 yX3_takeBindName host ∈ gNb := Or.inl (g_tb 654 (by decide +kernel) rfl)
theorem lm_ScopeGraph_Reader_134 : Cond.methodLink RX3 134 yX3_takeNextOfLong ∈ gTb ∨ ∃ host, Cond.methodLinkNest RX3 134 yX3_takeNextOfLong host ∈ gNb := Or.inl (g_tb 658 (by decide +kernel) rfl)
theorem lm_ScopeGraph_Reader_137 : Cond.methodLink RX3 137 yX2_declare ∈ gTb ∨ ∃ host, Cond.methodLinkNest RX3 137 yX2_declare host ∈ gNb := Or.inl (g_tb 642 (by decide +kernel) rfl)
theorem lm_ScopeGraph_Reader_159 : Cond.methodLink RX3 159 yX2_importFrom ∈ gTb ∨ ∃ host, Cond.methodLinkNest RX3 159 yX2_importFrom host ∈ gNb := Or.inl (g_tb 615 (by decide +kernel) rfl)
theorem lm_ScopeGraph_Reader_162 : Cond.methodLink RX3 162 yX3_topOuter ∈ gTb ∨ ∃ host, Cond.methodLinkNest RX3 162 yX3_topOuter host ∈ gNb := Or.inl (g_tb 574 (by decide +kernel) rfl)
theorem lm_ScopeGraph_Reader_168 : Cond.methodLink RX3 168 yX3_setTop ∈ gTb ∨ ∃ host, Cond.methodLinkNest RX3 168 yX3_setTop host ∈ gNb := Or.inl (g_tb 630 (by decide +kernel) rfl)
theorem lm_ScopeGraph_Reader_171 : Cond.methodLink RX3 171 yX2_refer ∈ gTb ∨ ∃ host, Cond.methodLinkNest RX3 171 yX2_refer host ∈ gNb := Or.inl (g_tb 590 (by decide +kernel) rfl)
theorem lm_ScopeGraph_Resolver_29 : Cond.methodLink RX4 29 yX4_followStatements ∈ gTb ∨ ∃ host, Cond.methodLinkNest RX4 29 yX4_followStatements host ∈ gNb := Or.inl (g_tb 678 (by decide +kernel) rfl)
theorem lm_ScopeGraph_Resolver_46 : Cond.methodLink RX4 46 yX4_means ∈ gTb ∨ ∃ host, Cond.methodLinkNest RX4 46 yX4_means host ∈ gNb := Or.inl (g_tb 682 (by decide +kernel) rfl)
theorem lm_ScopeGraph_Resolver_50 : Cond.methodLink RX4 50 yX4_keep ∈ gTb ∨ ∃ host, Cond.methodLinkNest RX4 50 yX4_keep host ∈ gNb := Or.inl (g_tb 709 (by decide +kernel) rfl)
theorem lm_ScopeGraph_Resolver_83 : Cond.methodLink RX4 83 yX2_ownedBy ∈ gTb ∨ ∃ host, Cond.methodLinkNest RX4 83 yX2_ownedBy host ∈ gNb := Or.inl (g_tb 686 (by decide +kernel) rfl)
theorem lm_ScopeGraph_Resolver_93 : Cond.methodLink RX4 93 yX4_local ∈ gTb ∨ ∃ host, Cond.methodLinkNest RX4 93 yX4_local host ∈ gNb := Or.inl (g_tb 699 (by decide +kernel) rfl)
theorem lm_ScopeGraph_Resolver_104 : Cond.methodLink RX4 104 yX4_importedBy ∈ gTb ∨ ∃ host, Cond.methodLinkNest RX4 104 yX4_importedBy host ∈ gNb := Or.inl (g_tb 704 (by decide +kernel) rfl)
theorem lm_ScopeGraph_Tape_19 : Cond.methodLink RX5 19 yX5_add ∈ gTb ∨ ∃ host, Cond.methodLinkNest RX5 19 yX5_add host ∈ gNb := Or.inl (g_tb 800 (by decide +kernel) rfl)
theorem lm_ScopeGraph_Tokens_18 : Cond.methodLink RX6 18 yX6_behindBlanks ∈ gTb ∨ ∃ host, Cond.methodLinkNest RX6 18 yX6_behindBlanks host ∈ gNb := Or.inl (g_tb 399 (by decide +kernel) rfl)
theorem lm_ScopeGraph_Tokens_22 : Cond.methodLink RX6 22 yX5_at ∈ gTb ∨ ∃ host, Cond.methodLinkNest RX6 22 yX5_at host ∈ gNb := Or.inl (g_tb 402 (by decide +kernel) rfl)
theorem lm_ScopeGraph_Tokens_31 : Cond.methodLink RX6 31 yX6_beginsName ∈ gTb ∨ ∃ host, Cond.methodLinkNest RX6 31 yX6_beginsName host ∈ gNb := Or.inl (g_tb 409 (by decide +kernel) rfl)
theorem lm_ScopeGraph_Tokens_35 : Cond.methodLink RX6 35 yX6_takeName ∈ gTb ∨ ∃ host, Cond.methodLinkNest RX6 35 yX6_takeName host ∈ gNb := Or.inl (g_tb 412 (by decide +kernel) rfl)
theorem lm_ScopeGraph_Tokens_39 : Cond.methodLink RX6 39 yX6_isDigit ∈ gTb ∨ ∃ host, Cond.methodLinkNest RX6 39 yX6_isDigit host ∈ gNb := Or.inl (g_tb 419 (by decide +kernel) rfl)
theorem lm_ScopeGraph_Tokens_42 : Cond.methodLink RX6 42 yX6_takeNumber ∈ gTb ∨ ∃ host, Cond.methodLinkNest RX6 42 yX6_takeNumber host ∈ gNb := Or.inl (g_tb 479 (by decide +kernel) rfl)
theorem lm_ScopeGraph_Tokens_47 : Cond.methodLink RX6 47 yJ0_indexOf_0f7a4 ∈ gTb ∨ ∃ host, Cond.methodLinkNest RX6 47 yJ0_indexOf_0f7a4 host ∈ gNb := Or.inl (g_tb 484 (by decide +kernel) rfl)
theorem lm_ScopeGraph_Tokens_52 : Cond.methodLink RX6 52 yX6_begin ∈ gTb ∨ ∃ host, Cond.methodLinkNest RX6 52 yX6_begin host ∈ gNb := Or.inl (g_tb 932 (by decide +kernel) rfl)
theorem lm_ScopeGraph_Tokens_55 : Cond.methodLink RX6 55 yX6_advance ∈ gTb ∨ ∃ host, Cond.methodLinkNest RX6 55 yX6_advance host ∈ gNb := Or.inl (g_tb 933 (by decide +kernel) rfl)
theorem lm_ScopeGraph_Tokens_68 : Cond.methodLink RX6 68 yX6_isInName ∈ gTb ∨ ∃ host, Cond.methodLinkNest RX6 68 yX6_isInName host ∈ gNb := Or.inl (g_tb 416 (by decide +kernel) rfl)
theorem lm_ScopeGraph_Tokens_71 : Cond.methodLink RX6 71 yX6_packByte ∈ gTb ∨ ∃ host, Cond.methodLinkNest RX6 71 yX6_packByte host ∈ gNb := Or.inl (g_tb 422 (by decide +kernel) rfl)
theorem lm_ScopeGraph_Tokens_75 : Cond.methodLink RX6 75 yX6_wordOrName ∈ gTb ∨ ∃ host, Cond.methodLinkNest RX6 75 yX6_wordOrName host ∈ gNb := Or.inl (g_tb 426 (by decide +kernel) rfl)
theorem lm_ScopeGraph_Tokens_79 : Cond.methodLink RX6 79 yX6_isWord ∈ gTb ∨ ∃ host, Cond.methodLinkNest RX6 79 yX6_isWord host ∈ gNb := Or.inl (g_tb 430 (by decide +kernel) rfl)
theorem lm_ScopeGraph_Tokens_84 : Cond.methodLink RX6 84 yJ0_charAt_5068e ∈ gTb ∨ ∃ host, Cond.methodLinkNest RX6 84 yJ0_charAt_5068e host ∈ gNb := Or.inl (g_tb 435 (by decide +kernel) rfl)
theorem lm_ScopeGraph_Tokens_92 : Cond.methodLink RX6 92 yX6_isBlank ∈ gTb ∨ ∃ host, Cond.methodLinkNest RX6 92 yX6_isBlank host ∈ gNb := Or.inl (g_tb 406 (by decide +kernel) rfl)
theorem lm_ScopeGraphLaw_7 : Cond.methodLink RL 7 yX7_feed ∈ gTb ∨ ∃ host, Cond.methodLinkNest RL 7 yX7_feed host ∈ gNb := Or.inl (g_tb 725 (by decide +kernel) rfl)
theorem lm_ScopeGraphLaw_15 : Cond.methodLink RL 15 yX7_end ∈ gTb ∨ ∃ host, Cond.methodLinkNest RL 15 yX7_end host ∈ gNb := Or.inl (g_tb 808 (by decide +kernel) rfl)
theorem lm_ScopeGraphLaw_21 : Cond.methodLink RL 21 yX7_count ∈ gTb ∨ ∃ host, Cond.methodLinkNest RL 21 yX7_count host ∈ gNb := Or.inl (g_tb 832 (by decide +kernel) rfl)
theorem lm_ScopeGraphLaw_27 : Cond.methodLink RL 27 yX7_scope ∈ gTb ∨ ∃ host, Cond.methodLinkNest RL 27 yX7_scope host ∈ gNb := Or.inl (g_tb 864 (by decide +kernel) rfl)
theorem lm_ScopeGraphLaw_31 : Cond.methodLink RL 31 yX7_declaration ∈ gTb ∨ ∃ host, Cond.methodLinkNest RL 31 yX7_declaration host ∈ gNb := Or.inl (g_tb 880 (by decide +kernel) rfl)
theorem lm_ScopeGraphLaw_34 : Cond.methodLink RL 34 yX7_reference ∈ gTb ∨ ∃ host, Cond.methodLinkNest RL 34 yX7_reference host ∈ gNb := Or.inl (g_tb 900 (by decide +kernel) rfl)
theorem lm_ScopeGraphLaw_37 : Cond.methodLink RL 37 yX7_meant ∈ gTb ∨ ∃ host, Cond.methodLinkNest RL 37 yX7_meant host ∈ gNb := Or.inl (g_tb 908 (by decide +kernel) rfl)
theorem lm_ScopeGraphLaw_40 : Cond.methodLink RL 40 yX7_friends ∈ gTb ∨ ∃ host, Cond.methodLinkNest RL 40 yX7_friends host ∈ gNb := Or.inl (g_tb 917 (by decide +kernel) rfl)
theorem lm_ScopeGraphLaw_44 : Cond.methodLink RL 44 yX7_rename ∈ gTb ∨ ∃ host, Cond.methodLinkNest RL 44 yX7_rename host ∈ gNb := Or.inl (g_tb 924 (by decide +kernel) rfl)
theorem lm_ScopeGraphLaw_47 : Cond.methodLink RL 47 yX7_letter ∈ gTb ∨ ∃ host, Cond.methodLinkNest RL 47 yX7_letter host ∈ gNb := Or.inl (g_tb 975 (by decide +kernel) rfl)
theorem lm_ScopeGraphLaw_50 : Cond.methodLink RL 50 yX7_init ∈ gTb ∨ ∃ host, Cond.methodLinkNest RL 50 yX7_init host ∈ gNb := Or.inl (g_tb 101 (by decide +kernel) rfl)
theorem lm_ScopeGraphLaw_53 : Cond.methodLink RL 53 yX8_init ∈ gTb ∨ ∃ host, Cond.methodLinkNest RL 53 yX8_init host ∈ gNb := Or.inl (g_tb 982 (by decide +kernel) rfl)
theorem lm_ScopeGraphLaw_54 : Cond.methodLink RL 54 yL_feed ∈ gTb ∨ ∃ host, Cond.methodLinkNest RL 54 yL_feed host ∈ gNb := Or.inl (g_tb 721 (by decide +kernel) rfl)
theorem lm_ScopeGraphLaw_59 : Cond.methodLink RL 59 yX8_feed ∈ gTb ∨ ∃ host, Cond.methodLinkNest RL 59 yX8_feed host ∈ gNb := Or.inl (g_tb 1214 (by decide +kernel) rfl)
theorem lm_ScopeGraphLaw_60 : Cond.methodLink RL 60 yX8_thrown ∈ gTb ∨ ∃ host, Cond.methodLinkNest RL 60 yX8_thrown host ∈ gNb := Or.inl (g_tb 1210 (by decide +kernel) rfl)
theorem lm_ScopeGraphLaw_64 : Cond.methodLink RL 64 yL_end ∈ gTb ∨ ∃ host, Cond.methodLinkNest RL 64 yL_end host ∈ gNb := Or.inl (g_tb 804 (by decide +kernel) rfl)
theorem lm_ScopeGraphLaw_67 : Cond.methodLink RL 67 yX8_end ∈ gTb ∨ ∃ host, Cond.methodLinkNest RL 67 yX8_end host ∈ gNb := Or.inl (g_tb 1226 (by decide +kernel) rfl)
theorem lm_ScopeGraphLaw_68 : Cond.methodLink RL 68 yX7_read ∈ gTb ∨ ∃ host, Cond.methodLinkNest RL 68 yX7_read host ∈ gNb := Or.inl (g_tb 382 (by decide +kernel) rfl)
theorem lm_ScopeGraphLaw_71 : Cond.methodLink RL 71 yX8_read ∈ gTb ∨ ∃ host, Cond.methodLinkNest RL 71 yX8_read host ∈ gNb := Or.inl (g_tb 1230 (by decide +kernel) rfl)
theorem lm_ScopeGraphLaw_72 : Cond.methodLink RL 72 yX7_fault ∈ gTb ∨ ∃ host, Cond.methodLinkNest RL 72 yX7_fault host ∈ gNb := Or.inl (g_tb 717 (by decide +kernel) rfl)
theorem lm_ScopeGraphLaw_75 : Cond.methodLink RL 75 yX8_fault ∈ gTb ∨ ∃ host, Cond.methodLinkNest RL 75 yX8_fault host ∈ gNb := Or.inl (g_tb 1380 (by decide +kernel) rfl)
theorem lm_ScopeGraphLaw_76 : Cond.methodLink RL 76 yL_count ∈ gTb ∨ ∃ host, Cond.methodLinkNest RL 76 yL_count host ∈ gNb := Or.inl (g_tb 828 (by decide +kernel) rfl)
theorem lm_ScopeGraphLaw_79 : Cond.methodLink RL 79 yX8_count ∈ gTb ∨ ∃ host, Cond.methodLinkNest RL 79 yX8_count host ∈ gNb := Or.inl (g_tb 1384 (by decide +kernel) rfl)
theorem lm_ScopeGraphLaw_80 : Cond.methodLink RL 80 yL_scope ∈ gTb ∨ ∃ host, Cond.methodLinkNest RL 80 yL_scope host ∈ gNb := Or.inl (g_tb 861 (by decide +kernel) rfl)
theorem lm_ScopeGraphLaw_83 : Cond.methodLink RL 83 yX8_scope ∈ gTb ∨ ∃ host, Cond.methodLinkNest RL 83 yX8_scope host ∈ gNb := Or.inl (g_tb 1391 (by decide +kernel) rfl)
theorem lm_ScopeGraphLaw_84 : Cond.methodLink RL 84 yL_declaration ∈ gTb ∨ ∃ host, Cond.methodLinkNest RL 84 yL_declaration host ∈ gNb := Or.inl (g_tb 877 (by decide +kernel) rfl)
theorem lm_ScopeGraphLaw_86 : Cond.methodLink RL 86 yX8_declaration ∈ gTb ∨ ∃ host, Cond.methodLinkNest RL 86 yX8_declaration host ∈ gNb := Or.inl (g_tb 1395 (by decide +kernel) rfl)
theorem lm_ScopeGraphLaw_87 : Cond.methodLink RL 87 yL_reference ∈ gTb ∨ ∃ host, Cond.methodLinkNest RL 87 yL_reference host ∈ gNb := Or.inl (g_tb 897 (by decide +kernel) rfl)
theorem lm_ScopeGraphLaw_89 : Cond.methodLink RL 89 yX8_reference ∈ gTb ∨ ∃ host, Cond.methodLinkNest RL 89 yX8_reference host ∈ gNb := Or.inl (g_tb 1403 (by decide +kernel) rfl)
theorem lm_ScopeGraphLaw_90 : Cond.methodLink RL 90 yL_meant ∈ gTb ∨ ∃ host, Cond.methodLinkNest RL 90 yL_meant host ∈ gNb := Or.inl (g_tb 905 (by decide +kernel) rfl)
theorem lm_ScopeGraphLaw_92 : Cond.methodLink RL 92 yX8_meant ∈ gTb ∨ ∃ host, Cond.methodLinkNest RL 92 yX8_meant host ∈ gNb := Or.inl (g_tb 1407 (by decide +kernel) rfl)
theorem lm_ScopeGraphLaw_93 : Cond.methodLink RL 93 yL_friends ∈ gTb ∨ ∃ host, Cond.methodLinkNest RL 93 yL_friends host ∈ gNb := Or.inl (g_tb 914 (by decide +kernel) rfl)
theorem lm_ScopeGraphLaw_95 : Cond.methodLink RL 95 yX8_friends ∈ gTb ∨ ∃ host, Cond.methodLinkNest RL 95 yX8_friends host ∈ gNb := Or.inl (g_tb 1411 (by decide +kernel) rfl)
theorem lm_ScopeGraphLaw_96 : Cond.methodLink RL 96 yL_rename ∈ gTb ∨ ∃ host, Cond.methodLinkNest RL 96 yL_rename host ∈ gNb := Or.inl (g_tb 921 (by decide +kernel) rfl)
theorem lm_ScopeGraphLaw_98 : Cond.methodLink RL 98 yX8_rename ∈ gTb ∨ ∃ host, Cond.methodLinkNest RL 98 yX8_rename host ∈ gNb := Or.inl (g_tb 1415 (by decide +kernel) rfl)
theorem lm_ScopeGraphLaw_99 : Cond.methodLink RL 99 yL_letter ∈ gTb ∨ ∃ host, Cond.methodLinkNest RL 99 yL_letter host ∈ gNb := Or.inl (g_tb 972 (by decide +kernel) rfl)
theorem lm_ScopeGraphLaw_101 : Cond.methodLink RL 101 yX8_letter ∈ gTb ∨ ∃ host, Cond.methodLinkNest RL 101 yX8_letter host ∈ gNb := Or.inl (g_tb 1431 (by decide +kernel) rfl)
theorem lm_ScopeGraphModel_160 : Cond.methodLink RX8 160 yX8_fails ∈ gTb ∨ ∃ host, Cond.methodLinkNest RX8 160 yX8_fails host ∈ gNb := Or.inl (g_tb 1218 (by decide +kernel) rfl)
theorem lm_ScopeGraphModel_164 : Cond.methodLink RX8 164 yX8_four ∈ gTb ∨ ∃ host, Cond.methodLinkNest RX8 164 yX8_four host ∈ gNb := Or.inl (g_tb 1222 (by decide +kernel) rfl)
theorem lm_ScopeGraphModel_180 : Cond.methodLink RX8 180 yX8_byteAt ∈ gTb ∨ ∃ host, Cond.methodLinkNest RX8 180 yX8_byteAt host ∈ gNb := Or.inl (g_tb 1246 (by decide +kernel) rfl)
theorem lm_ScopeGraphModel_190 : Cond.methodLink RX8 190 yX8_isLetter ∈ gTb ∨ ∃ host, Cond.methodLinkNest RX8 190 yX8_isLetter host ∈ gNb := Or.inl (g_tb 1250 (by decide +kernel) rfl)
theorem lm_ScopeGraphModel_194 : Cond.methodLink RX8 194 yX8_isDigit ∈ gTb ∨ ∃ host, Cond.methodLinkNest RX8 194 yX8_isDigit host ∈ gNb := Or.inl (g_tb 1253 (by decide +kernel) rfl)
theorem lm_ScopeGraphModel_200 : Cond.methodLink RX8 200 yX8_wordOf ∈ gTb ∨ ∃ host, Cond.methodLinkNest RX8 200 yX8_wordOf host ∈ gNb := Or.inl (g_tb 1256 (by decide +kernel) rfl)
theorem lm_ScopeGraphModel_204 : Cond.methodLink RX8 204 yX8_blame ∈ gTb ∨ ∃ host, Cond.methodLinkNest RX8 204 yX8_blame host ∈ gNb := Or.inl (g_tb 1260 (by decide +kernel) rfl)
theorem lm_ScopeGraphModel_229 : Cond.methodLink RX8 229 yX8_next ∈ gTb ∨ ∃ host, Cond.methodLinkNest RX8 229 yX8_next host ∈ gNb := Or.inl (g_tb 1242 (by decide +kernel) rfl)
theorem lm_ScopeGraphModel_233 : Cond.methodLink RX8 233 yX8_dec ∈ gTb ∨ ∃ host, Cond.methodLinkNest RX8 233 yX8_dec host ∈ gNb := Or.inl (g_tb 1264 (by decide +kernel) rfl)
theorem lm_ScopeGraphModel_236 : Cond.methodLink RX8 236 yX8_exp ∈ gTb ∨ ∃ host, Cond.methodLinkNest RX8 236 yX8_exp host ∈ gNb := Or.inl (g_tb 1296 (by decide +kernel) rfl)
theorem lm_ScopeGraphModel_239 : Cond.methodLink RX8 239 yX8_odd ∈ gTb ∨ ∃ host, Cond.methodLinkNest RX8 239 yX8_odd host ∈ gNb := Or.inl (g_tb 1268 (by decide +kernel) rfl)
theorem lm_ScopeGraphModel_242 : Cond.methodLink RX8 242 yX8_declare ∈ gTb ∨ ∃ host, Cond.methodLinkNest RX8 242 yX8_declare host ∈ gNb := Or.inl (g_tb 1272 (by decide +kernel) rfl)
theorem lm_ScopeGraphModel_245 : Cond.methodLink RX8 245 yX8_newScope ∈ gTb ∨ ∃ host, Cond.methodLinkNest RX8 245 yX8_newScope host ∈ gNb := Or.inl (g_tb 1276 (by decide +kernel) rfl)
theorem lm_ScopeGraphModel_249 : Cond.methodLink RX8 249 yX8_is ∈ gTb ∨ ∃ host, Cond.methodLinkNest RX8 249 yX8_is host ∈ gNb := Or.inl (g_tb 1280 (by decide +kernel) rfl)
theorem lm_ScopeGraphModel_252 : Cond.methodLink RX8 252 yX8_bracket ∈ gTb ∨ ∃ host, Cond.methodLinkNest RX8 252 yX8_bracket host ∈ gNb := Or.inl (g_tb 1284 (by decide +kernel) rfl)
theorem lm_ScopeGraphModel_255 : Cond.methodLink RX8 255 yX8_open ∈ gTb ∨ ∃ host, Cond.methodLinkNest RX8 255 yX8_open host ∈ gNb := Or.inl (g_tb 1288 (by decide +kernel) rfl)
theorem lm_ScopeGraphModel_258 : Cond.methodLink RX8 258 yX8_readLong ∈ gTb ∨ ∃ host, Cond.methodLinkNest RX8 258 yX8_readLong host ∈ gNb := Or.inl (g_tb 1292 (by decide +kernel) rfl)
theorem lm_ScopeGraphModel_268 : Cond.methodLink RX8 268 yX8_fun ∈ gTb ∨ ∃ host, Cond.methodLinkNest RX8 268 yX8_fun host ∈ gNb := Or.inl (g_tb 1300 (by decide +kernel) rfl)
theorem lm_ScopeGraphModel_271 : Cond.methodLink RX8 271 yX8_binds ∈ gTb ∨ ∃ host, Cond.methodLinkNest RX8 271 yX8_binds host ∈ gNb := Or.inl (g_tb 1308 (by decide +kernel) rfl)
theorem lm_ScopeGraphModel_274 : Cond.methodLink RX8 274 yX8_ends ∈ gTb ∨ ∃ host, Cond.methodLinkNest RX8 274 yX8_ends host ∈ gNb := Or.inl (g_tb 1316 (by decide +kernel) rfl)
theorem lm_ScopeGraphModel_277 : Cond.methodLink RX8 277 yX8_body ∈ gTb ∨ ∃ host, Cond.methodLinkNest RX8 277 yX8_body host ∈ gNb := Or.inl (g_tb 1304 (by decide +kernel) rfl)
theorem lm_ScopeGraphModel_280 : Cond.methodLink RX8 280 yX8_bind ∈ gTb ∨ ∃ host, Cond.methodLinkNest RX8 280 yX8_bind host ∈ gNb := Or.inl (g_tb 1312 (by decide +kernel) rfl)
theorem lm_ScopeGraphModel_292 : Cond.methodLink RX8 292 yX8_keep ∈ gTb ∨ ∃ host, Cond.methodLinkNest RX8 292 yX8_keep host ∈ gNb := Or.inl (g_tb 1234 (by decide +kernel) rfl)
theorem lm_ScopeGraphModel_295 : Cond.methodLink RX8 295 yX8_readAll ∈ gTb ∨ ∃ host, Cond.methodLinkNest RX8 295 yX8_readAll host ∈ gNb := Or.inl (g_tb 1238 (by decide +kernel) rfl)
theorem lm_ScopeGraphModel_298 : Cond.methodLink RX8 298 yX8_giveBack ∈ gTb ∨ ∃ host, Cond.methodLinkNest RX8 298 yX8_giveBack host ∈ gNb := Or.inl (g_tb 1320 (by decide +kernel) rfl)
theorem lm_ScopeGraphModel_301 : Cond.methodLink RX8 301 yX8_takeText ∈ gTb ∨ ∃ host, Cond.methodLinkNest RX8 301 yX8_takeText host ∈ gNb := Or.inl (g_tb 1324 (by decide +kernel) rfl)
theorem lm_ScopeGraphModel_307 : Cond.methodLink RX8 307 yX8_nameAll ∈ gTb ∨ ∃ host, Cond.methodLinkNest RX8 307 yX8_nameAll host ∈ gNb := Or.inl (g_tb 1328 (by decide +kernel) rfl)
theorem lm_ScopeGraphModel_310 : Cond.methodLink RX8 310 yX8_meanAll ∈ gTb ∨ ∃ host, Cond.methodLinkNest RX8 310 yX8_meanAll host ∈ gNb := Or.inl (g_tb 1340 (by decide +kernel) rfl)
theorem lm_ScopeGraphModel_313 : Cond.methodLink RX8 313 yX8_isSame ∈ gTb ∨ ∃ host, Cond.methodLinkNest RX8 313 yX8_isSame host ∈ gNb := Or.inl (g_tb 1336 (by decide +kernel) rfl)
theorem lm_ScopeGraphModel_317 : Cond.methodLink RX8 317 yX8_nameAt ∈ gTb ∨ ∃ host, Cond.methodLinkNest RX8 317 yX8_nameAt host ∈ gNb := Or.inl (g_tb 1332 (by decide +kernel) rfl)
theorem lm_ScopeGraphModel_334 : Cond.methodLink RX8 334 yX8_askMeans ∈ gTb ∨ ∃ host, Cond.methodLinkNest RX8 334 yX8_askMeans host ∈ gNb := Or.inl (g_tb 1348 (by decide +kernel) rfl)
theorem lm_ScopeGraphModel_338 : Cond.methodLink RX8 338 yX8_visible ∈ gTb ∨ ∃ host, Cond.methodLinkNest RX8 338 yX8_visible host ∈ gNb := Or.inl (g_tb 1356 (by decide +kernel) rfl)
theorem lm_ScopeGraphModel_341 : Cond.methodLink RX8 341 yX8_imports ∈ gTb ∨ ∃ host, Cond.methodLinkNest RX8 341 yX8_imports host ∈ gNb := Or.inl (g_tb 1371 (by decide +kernel) rfl)
theorem lm_ScopeGraphModel_344 : Cond.methodLink RX8 344 yX8_local ∈ gTb ∨ ∃ host, Cond.methodLinkNest RX8 344 yX8_local host ∈ gNb := Or.inl (g_tb 1376 (by decide +kernel) rfl)
theorem lm_ScopeGraphModel_347 : Cond.methodLink RX8 347 yX8_ask ∈ gTb ∨ ∃ host, Cond.methodLinkNest RX8 347 yX8_ask host ∈ gNb := Or.inl (g_tb 1352 (by decide +kernel) rfl)
theorem lm_ScopeGraphModel_351 : Cond.methodLink RX8 351 yX8_has ∈ gTb ∨ ∃ host, Cond.methodLinkNest RX8 351 yX8_has host ∈ gNb := Or.inl (g_tb 1360 (by decide +kernel) rfl)
theorem lm_ScopeGraphModel_355 : Cond.methodLink RX8 355 yX8_here ∈ gTb ∨ ∃ host, Cond.methodLinkNest RX8 355 yX8_here host ∈ gNb := Or.inl (g_tb 1363 (by decide +kernel) rfl)
theorem lm_ScopeGraphModel_359 : Cond.methodLink RX8 359 yX8_says ∈ gTb ∨ ∃ host, Cond.methodLinkNest RX8 359 yX8_says host ∈ gNb := Or.inl (g_tb 1367 (by decide +kernel) rfl)
theorem lm_ScopeGraphModel_365 : Cond.methodLink RX8 365 yX8_mean ∈ gTb ∨ ∃ host, Cond.methodLinkNest RX8 365 yX8_mean host ∈ gNb := Or.inl (g_tb 1344 (by decide +kernel) rfl)
theorem lm_ScopeGraphModel_368 : Cond.methodLink RX8 368 yX8_many ∈ gTb ∨ ∃ host, Cond.methodLinkNest RX8 368 yX8_many host ∈ gNb := Or.inl (g_tb 1388 (by decide +kernel) rfl)
theorem lm_ScopeGraphModel_372 : Cond.methodLink RX8 372 yX8_friendsOf ∈ gTb ∨ ∃ host, Cond.methodLinkNest RX8 372 yX8_friendsOf host ∈ gNb := Or.inl (g_tb 1399 (by decide +kernel) rfl)
theorem lm_ScopeGraphModel_376 : Cond.methodLink RX8 376 yX8_isName ∈ gTb ∨ ∃ host, Cond.methodLinkNest RX8 376 yX8_isName host ∈ gNb := Or.inl (g_tb 1419 (by decide +kernel) rfl)
theorem lm_ScopeGraphModel_379 : Cond.methodLink RX8 379 yX8_isTape ∈ gTb ∨ ∃ host, Cond.methodLinkNest RX8 379 yX8_isTape host ∈ gNb := Or.inl (g_tb 1423 (by decide +kernel) rfl)
theorem lm_ScopeGraphModel_382 : Cond.methodLink RX8 382 yX8_build ∈ gTb ∨ ∃ host, Cond.methodLinkNest RX8 382 yX8_build host ∈ gNb := Or.inl (g_tb 1427 (by decide +kernel) rfl)
theorem lm_java_lang_String_492 : Cond.methodLink "java/lang/String" 492 yJ0_isLatin1_aae02 ∈ gTb ∨ ∃ host, Cond.methodLinkNest "java/lang/String" 492 yJ0_isLatin1_aae02 host ∈ gNb := Or.inl (g_tb 439 (by decide +kernel) rfl)
theorem lm_java_lang_String_495 : Cond.methodLink "java/lang/String" 495 yJ1_charAt_3b067 ∈ gTb ∨ ∃ host, Cond.methodLinkNest "java/lang/String" 495 yJ1_charAt_3b067 host ∈ gNb := Or.inl (g_tb 445 (by decide +kernel) rfl)
theorem lm_java_lang_String_633 : Cond.methodLink "java/lang/String" 633 yJ0_indexOf_7cf53 ∈ gTb ∨ ∃ host, Cond.methodLinkNest "java/lang/String" 633 yJ0_indexOf_7cf53 host ∈ gNb := Or.inl (g_tb 488 (by decide +kernel) rfl)
theorem lm_java_lang_String_637 : Cond.methodLink "java/lang/String" 637 yJ1_indexOf_4cfef ∈ gTb ∨ ∃ host, Cond.methodLinkNest "java/lang/String" 637 yJ1_indexOf_4cfef host ∈ gNb := Or.inl (g_tb 500 (by decide +kernel) rfl)
theorem lm_java_lang_StringLatin1_88 : Cond.methodLink "java/lang/StringLatin1" 88 yJ1_canEncode_9a6ad ∈ gTb ∨ ∃ host, Cond.methodLinkNest "java/lang/StringLatin1" 88 yJ1_canEncode_9a6ad host ∈ gNb := Or.inl (g_tb 503 (by decide +kernel) rfl)
theorem lm_java_lang_StringLatin1_95 : Cond.methodLink "java/lang/StringLatin1" 95 yJ1_indexOfChar_4cfef ∈ gTb ∨ ∃ host, Cond.methodLinkNest "java/lang/StringLatin1" 95 yJ1_indexOfChar_4cfef host ∈ gNb := Or.inl (g_tb 512 (by decide +kernel) rfl)
theorem lm_ScopeGraph_9 : Cond.methodLink RX7 9 yX5_init ∈ gTb ∨ ∃ host, Cond.methodLinkNest RX7 9 yX5_init host ∈ gNb := Or.inr ⟨"ScopeGraph", g_nb 109 (by decide +kernel) rfl⟩
theorem lm_ScopeGraph_31 : Cond.methodLink RX7 31 yX1_init ∈ gTb ∨ ∃ host, Cond.methodLinkNest RX7 31 yX1_init host ∈ gNb := Or.inr ⟨"ScopeGraph", g_nb 238 (by decide +kernel) rfl⟩
theorem lm_ScopeGraph_Marks_45 : Cond.methodLink RX0 45 yX7_nameByte ∈ gTb ∨ ∃ host, Cond.methodLinkNest RX0 45 yX7_nameByte host ∈ gNb := Or.inr ⟨"ScopeGraph", g_nb 952 (by decide +kernel) rfl⟩
theorem lm_ScopeGraph_Program_75 : Cond.methodLink RX2 75 yX7_lowest ∈ gTb ∨ ∃ host, Cond.methodLinkNest RX2 75 yX7_lowest host ∈ gNb := Or.inr ⟨"ScopeGraph", g_nb 690 (by decide +kernel) rfl⟩
theorem lm_ScopeGraph_Reader_11 : Cond.methodLink RX3 11 yX6_init ∈ gTb ∨ ∃ host, Cond.methodLinkNest RX3 11 yX6_init host ∈ gNb := Or.inr ⟨"ScopeGraph", g_nb 270 (by decide +kernel) rfl⟩
theorem lm_ScopeGraph_Resolver_100 : Cond.methodLink RX4 100 yX7_lowest ∈ gTb ∨ ∃ host, Cond.methodLinkNest RX4 100 yX7_lowest host ∈ gNb := Or.inr ⟨"ScopeGraph", g_nb 703 (by decide +kernel) rfl⟩
theorem lm_ScopeGraph_Tape_23 : Cond.methodLink RX5 23 yX7_nameByte ∈ gTb ∨ ∃ host, Cond.methodLinkNest RX5 23 yX7_nameByte host ∈ gNb := Or.inr ⟨"ScopeGraph", g_nb 969 (by decide +kernel) rfl⟩
theorem lm_ScopeGraph_Tokens_88 : Cond.methodLink RX6 88 yX7_nameByte ∈ gTb ∨ ∃ host, Cond.methodLinkNest RX6 88 yX7_nameByte host ∈ gNb := Or.inr ⟨"ScopeGraph", g_nb 475 (by decide +kernel) rfl⟩
end
