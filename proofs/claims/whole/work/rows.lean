section
-- ===== PART A: goes FIRST, ahead of the names: the tables' words, and 'selects' of the private methods out of them =====
/-- a private method of a class that the tables say can be made, by its rows of tables_1 -/
def lw_okq (q : MethodName × Nat) : Prop := (q.1.cls ≠ "java/lang/invoke/MethodHandle" ∧ q.1.cls ≠ "java/lang/invoke/VarHandle") ∧ Cond.instantiable q.1.cls q.2 ∈ tables_1 ∧ Cond.privateMethod q.1 ∈ tables_1 ∧ Cond.instanceMethod q.1 ∈ tables_1
theorem lw_p0 : lw_okq (⟨"ScopeGraph$Tokens", "takeName", "(LScopeGraph$Tape;)V"⟩, 5) := ⟨⟨by decide +kernel, by decide +kernel⟩, List.mem_of_getElem? (i := 193) (by decide +kernel), List.mem_of_getElem? (i := 337) (by decide +kernel), List.mem_of_getElem? (i := 338) (by decide +kernel)⟩
theorem lw_p1 : lw_okq (⟨"ScopeGraph$Tokens", "packByte", "(II)V"⟩, 5) := ⟨⟨by decide +kernel, by decide +kernel⟩, List.mem_of_getElem? (i := 193) (by decide +kernel), List.mem_of_getElem? (i := 347) (by decide +kernel), List.mem_of_getElem? (i := 348) (by decide +kernel)⟩
theorem lw_p2 : lw_okq (⟨"ScopeGraph$Tokens", "wordOrName", "()I"⟩, 5) := ⟨⟨by decide +kernel, by decide +kernel⟩, List.mem_of_getElem? (i := 193) (by decide +kernel), List.mem_of_getElem? (i := 351) (by decide +kernel), List.mem_of_getElem? (i := 352) (by decide +kernel)⟩
theorem lw_p3 : lw_okq (⟨"ScopeGraph$Tokens", "isWord", "(I)Z"⟩, 5) := ⟨⟨by decide +kernel, by decide +kernel⟩, List.mem_of_getElem? (i := 193) (by decide +kernel), List.mem_of_getElem? (i := 355) (by decide +kernel), List.mem_of_getElem? (i := 356) (by decide +kernel)⟩
theorem lw_p4 : lw_okq (⟨"ScopeGraph$Tokens", "takeNumber", "(LScopeGraph$Tape;)V"⟩, 5) := ⟨⟨by decide +kernel, by decide +kernel⟩, List.mem_of_getElem? (i := 193) (by decide +kernel), List.mem_of_getElem? (i := 404) (by decide +kernel), List.mem_of_getElem? (i := 405) (by decide +kernel)⟩
theorem lw_p5 : lw_okq (⟨"ScopeGraph$Reader", "take", "(I)I"⟩, 10) := ⟨⟨by decide +kernel, by decide +kernel⟩, List.mem_of_getElem? (i := 187) (by decide +kernel), List.mem_of_getElem? (i := 475) (by decide +kernel), List.mem_of_getElem? (i := 476) (by decide +kernel)⟩
theorem lw_p6 : lw_okq (⟨"ScopeGraph$Reader", "takeDec", "(I)I"⟩, 10) := ⟨⟨by decide +kernel, by decide +kernel⟩, List.mem_of_getElem? (i := 187) (by decide +kernel), List.mem_of_getElem? (i := 479) (by decide +kernel), List.mem_of_getElem? (i := 480) (by decide +kernel)⟩
theorem lw_p7 : lw_okq (⟨"ScopeGraph$Reader", "turnTo", "(I)I"⟩, 10) := ⟨⟨by decide +kernel, by decide +kernel⟩, List.mem_of_getElem? (i := 187) (by decide +kernel), List.mem_of_getElem? (i := 483) (by decide +kernel), List.mem_of_getElem? (i := 484) (by decide +kernel)⟩
theorem lw_p8 : lw_okq (⟨"ScopeGraph$Reader", "topFrame", "()I"⟩, 10) := ⟨⟨by decide +kernel, by decide +kernel⟩, List.mem_of_getElem? (i := 187) (by decide +kernel), List.mem_of_getElem? (i := 487) (by decide +kernel), List.mem_of_getElem? (i := 488) (by decide +kernel)⟩
theorem lw_p9 : lw_okq (⟨"ScopeGraph$Reader", "closeTo", "(I)I"⟩, 10) := ⟨⟨by decide +kernel, by decide +kernel⟩, List.mem_of_getElem? (i := 187) (by decide +kernel), List.mem_of_getElem? (i := 491) (by decide +kernel), List.mem_of_getElem? (i := 492) (by decide +kernel)⟩
theorem lw_p10 : lw_okq (⟨"ScopeGraph$Reader", "popTo", "(I)I"⟩, 10) := ⟨⟨by decide +kernel, by decide +kernel⟩, List.mem_of_getElem? (i := 187) (by decide +kernel), List.mem_of_getElem? (i := 495) (by decide +kernel), List.mem_of_getElem? (i := 496) (by decide +kernel)⟩
theorem lw_p11 : lw_okq (⟨"ScopeGraph$Reader", "topOuter", "()I"⟩, 10) := ⟨⟨by decide +kernel, by decide +kernel⟩, List.mem_of_getElem? (i := 187) (by decide +kernel), List.mem_of_getElem? (i := 499) (by decide +kernel), List.mem_of_getElem? (i := 500) (by decide +kernel)⟩
theorem lw_p12 : lw_okq (⟨"ScopeGraph$Reader", "openTo", "(I)I"⟩, 10) := ⟨⟨by decide +kernel, by decide +kernel⟩, List.mem_of_getElem? (i := 187) (by decide +kernel), List.mem_of_getElem? (i := 503) (by decide +kernel), List.mem_of_getElem? (i := 504) (by decide +kernel)⟩
theorem lw_p13 : lw_okq (⟨"ScopeGraph$Reader", "takeAtom", "(I)I"⟩, 10) := ⟨⟨by decide +kernel, by decide +kernel⟩, List.mem_of_getElem? (i := 187) (by decide +kernel), List.mem_of_getElem? (i := 507) (by decide +kernel), List.mem_of_getElem? (i := 508) (by decide +kernel)⟩
theorem lw_p14 : lw_okq (⟨"ScopeGraph$Reader", "takeFirstOfLong", "()I"⟩, 10) := ⟨⟨by decide +kernel, by decide +kernel⟩, List.mem_of_getElem? (i := 187) (by decide +kernel), List.mem_of_getElem? (i := 511) (by decide +kernel), List.mem_of_getElem? (i := 512) (by decide +kernel)⟩
theorem lw_p15 : lw_okq (⟨"ScopeGraph$Reader", "push", "(II)V"⟩, 10) := ⟨⟨by decide +kernel, by decide +kernel⟩, List.mem_of_getElem? (i := 187) (by decide +kernel), List.mem_of_getElem? (i := 523) (by decide +kernel), List.mem_of_getElem? (i := 524) (by decide +kernel)⟩
def lw_privs_1 : List (MethodName × Nat) := [(⟨"ScopeGraph$Tokens", "takeName", "(LScopeGraph$Tape;)V"⟩, 5), (⟨"ScopeGraph$Tokens", "packByte", "(II)V"⟩, 5), (⟨"ScopeGraph$Tokens", "wordOrName", "()I"⟩, 5), (⟨"ScopeGraph$Tokens", "isWord", "(I)Z"⟩, 5), (⟨"ScopeGraph$Tokens", "takeNumber", "(LScopeGraph$Tape;)V"⟩, 5), (⟨"ScopeGraph$Reader", "take", "(I)I"⟩, 10), (⟨"ScopeGraph$Reader", "takeDec", "(I)I"⟩, 10), (⟨"ScopeGraph$Reader", "turnTo", "(I)I"⟩, 10), (⟨"ScopeGraph$Reader", "topFrame", "()I"⟩, 10), (⟨"ScopeGraph$Reader", "closeTo", "(I)I"⟩, 10), (⟨"ScopeGraph$Reader", "popTo", "(I)I"⟩, 10), (⟨"ScopeGraph$Reader", "topOuter", "()I"⟩, 10), (⟨"ScopeGraph$Reader", "openTo", "(I)I"⟩, 10), (⟨"ScopeGraph$Reader", "takeAtom", "(I)I"⟩, 10), (⟨"ScopeGraph$Reader", "takeFirstOfLong", "()I"⟩, 10), (⟨"ScopeGraph$Reader", "push", "(II)V"⟩, 10)]
theorem lw_r1 : ∀ q ∈ lw_privs_1, lw_okq q := List.forall_mem_cons.mpr ⟨lw_p0, List.forall_mem_cons.mpr ⟨lw_p1, List.forall_mem_cons.mpr ⟨lw_p2, List.forall_mem_cons.mpr ⟨lw_p3, List.forall_mem_cons.mpr ⟨lw_p4, List.forall_mem_cons.mpr ⟨lw_p5, List.forall_mem_cons.mpr ⟨lw_p6, List.forall_mem_cons.mpr ⟨lw_p7, List.forall_mem_cons.mpr ⟨lw_p8, List.forall_mem_cons.mpr ⟨lw_p9, List.forall_mem_cons.mpr ⟨lw_p10, List.forall_mem_cons.mpr ⟨lw_p11, List.forall_mem_cons.mpr ⟨lw_p12, List.forall_mem_cons.mpr ⟨lw_p13, List.forall_mem_cons.mpr ⟨lw_p14, List.forall_mem_cons.mpr ⟨lw_p15, fun _ h => absurd h List.not_mem_nil⟩⟩⟩⟩⟩⟩⟩⟩⟩⟩⟩⟩⟩⟩⟩⟩
theorem lw_p16 : lw_okq (⟨"ScopeGraph$Reader", "takeScopeWord", "(II)I"⟩, 10) := ⟨⟨by decide +kernel, by decide +kernel⟩, List.mem_of_getElem? (i := 187) (by decide +kernel), List.mem_of_getElem? (i := 527) (by decide +kernel), List.mem_of_getElem? (i := 528) (by decide +kernel)⟩
theorem lw_p17 : lw_okq (⟨"ScopeGraph$Reader", "takeBehindAtom", "(I)I"⟩, 10) := ⟨⟨by decide +kernel, by decide +kernel⟩, List.mem_of_getElem? (i := 187) (by decide +kernel), List.mem_of_getElem? (i := 532) (by decide +kernel), List.mem_of_getElem? (i := 533) (by decide +kernel)⟩
theorem lw_p18 : lw_okq (⟨"ScopeGraph$Reader", "takeImportEnd", "()I"⟩, 10) := ⟨⟨by decide +kernel, by decide +kernel⟩, List.mem_of_getElem? (i := 187) (by decide +kernel), List.mem_of_getElem? (i := 536) (by decide +kernel), List.mem_of_getElem? (i := 537) (by decide +kernel)⟩
theorem lw_p19 : lw_okq (⟨"ScopeGraph$Reader", "takeIn", "()I"⟩, 10) := ⟨⟨by decide +kernel, by decide +kernel⟩, List.mem_of_getElem? (i := 187) (by decide +kernel), List.mem_of_getElem? (i := 547) (by decide +kernel), List.mem_of_getElem? (i := 548) (by decide +kernel)⟩
theorem lw_p20 : lw_okq (⟨"ScopeGraph$Reader", "topInner", "()I"⟩, 10) := ⟨⟨by decide +kernel, by decide +kernel⟩, List.mem_of_getElem? (i := 187) (by decide +kernel), List.mem_of_getElem? (i := 551) (by decide +kernel), List.mem_of_getElem? (i := 552) (by decide +kernel)⟩
theorem lw_p21 : lw_okq (⟨"ScopeGraph$Reader", "setTop", "(II)V"⟩, 10) := ⟨⟨by decide +kernel, by decide +kernel⟩, List.mem_of_getElem? (i := 187) (by decide +kernel), List.mem_of_getElem? (i := 555) (by decide +kernel), List.mem_of_getElem? (i := 556) (by decide +kernel)⟩
theorem lw_p22 : lw_okq (⟨"ScopeGraph$Reader", "takeName", "()I"⟩, 10) := ⟨⟨by decide +kernel, by decide +kernel⟩, List.mem_of_getElem? (i := 187) (by decide +kernel), List.mem_of_getElem? (i := 559) (by decide +kernel), List.mem_of_getElem? (i := 560) (by decide +kernel)⟩
theorem lw_p23 : lw_okq (⟨"ScopeGraph$Reader", "takeModuleName", "()I"⟩, 10) := ⟨⟨by decide +kernel, by decide +kernel⟩, List.mem_of_getElem? (i := 187) (by decide +kernel), List.mem_of_getElem? (i := 563) (by decide +kernel), List.mem_of_getElem? (i := 564) (by decide +kernel)⟩
theorem lw_p24 : lw_okq (⟨"ScopeGraph$Reader", "takeImportName", "()I"⟩, 10) := ⟨⟨by decide +kernel, by decide +kernel⟩, List.mem_of_getElem? (i := 187) (by decide +kernel), List.mem_of_getElem? (i := 571) (by decide +kernel), List.mem_of_getElem? (i := 572) (by decide +kernel)⟩
theorem lw_p25 : lw_okq (⟨"ScopeGraph$Reader", "declareIn", "(II)I"⟩, 10) := ⟨⟨by decide +kernel, by decide +kernel⟩, List.mem_of_getElem? (i := 187) (by decide +kernel), List.mem_of_getElem? (i := 575) (by decide +kernel), List.mem_of_getElem? (i := 576) (by decide +kernel)⟩
theorem lw_p26 : lw_okq (⟨"ScopeGraph$Reader", "takeBindName", "()I"⟩, 10) := ⟨⟨by decide +kernel, by decide +kernel⟩, List.mem_of_getElem? (i := 187) (by decide +kernel), List.mem_of_getElem? (i := 579) (by decide +kernel), List.mem_of_getElem? (i := 580) (by decide +kernel)⟩
theorem lw_p27 : lw_okq (⟨"ScopeGraph$Reader", "takeNextOfLong", "()I"⟩, 10) := ⟨⟨by decide +kernel, by decide +kernel⟩, List.mem_of_getElem? (i := 187) (by decide +kernel), List.mem_of_getElem? (i := 583) (by decide +kernel), List.mem_of_getElem? (i := 584) (by decide +kernel)⟩
theorem lw_p28 : lw_okq (⟨"ScopeGraph", "swapTapes", "()V"⟩, 9) := ⟨⟨by decide +kernel, by decide +kernel⟩, List.mem_of_getElem? (i := 24) (by decide +kernel), List.mem_of_getElem? (i := 587) (by decide +kernel), List.mem_of_getElem? (i := 588) (by decide +kernel)⟩
theorem lw_p29 : lw_okq (⟨"ScopeGraph$Resolver", "followStatements", "(I)V"⟩, 5) := ⟨⟨by decide +kernel, by decide +kernel⟩, List.mem_of_getElem? (i := 257) (by decide +kernel), List.mem_of_getElem? (i := 603) (by decide +kernel), List.mem_of_getElem? (i := 604) (by decide +kernel)⟩
theorem lw_p30 : lw_okq (⟨"ScopeGraph$Resolver", "means", "(IJI)J"⟩, 5) := ⟨⟨by decide +kernel, by decide +kernel⟩, List.mem_of_getElem? (i := 257) (by decide +kernel), List.mem_of_getElem? (i := 607) (by decide +kernel), List.mem_of_getElem? (i := 608) (by decide +kernel)⟩
theorem lw_p31 : lw_okq (⟨"ScopeGraph$Resolver", "local", "(JJI)J"⟩, 5) := ⟨⟨by decide +kernel, by decide +kernel⟩, List.mem_of_getElem? (i := 257) (by decide +kernel), List.mem_of_getElem? (i := 624) (by decide +kernel), List.mem_of_getElem? (i := 625) (by decide +kernel)⟩
def lw_privs_2 : List (MethodName × Nat) := [(⟨"ScopeGraph$Reader", "takeScopeWord", "(II)I"⟩, 10), (⟨"ScopeGraph$Reader", "takeBehindAtom", "(I)I"⟩, 10), (⟨"ScopeGraph$Reader", "takeImportEnd", "()I"⟩, 10), (⟨"ScopeGraph$Reader", "takeIn", "()I"⟩, 10), (⟨"ScopeGraph$Reader", "topInner", "()I"⟩, 10), (⟨"ScopeGraph$Reader", "setTop", "(II)V"⟩, 10), (⟨"ScopeGraph$Reader", "takeName", "()I"⟩, 10), (⟨"ScopeGraph$Reader", "takeModuleName", "()I"⟩, 10), (⟨"ScopeGraph$Reader", "takeImportName", "()I"⟩, 10), (⟨"ScopeGraph$Reader", "declareIn", "(II)I"⟩, 10), (⟨"ScopeGraph$Reader", "takeBindName", "()I"⟩, 10), (⟨"ScopeGraph$Reader", "takeNextOfLong", "()I"⟩, 10), (⟨"ScopeGraph", "swapTapes", "()V"⟩, 9), (⟨"ScopeGraph$Resolver", "followStatements", "(I)V"⟩, 5), (⟨"ScopeGraph$Resolver", "means", "(IJI)J"⟩, 5), (⟨"ScopeGraph$Resolver", "local", "(JJI)J"⟩, 5)]
theorem lw_r2 : ∀ q ∈ lw_privs_2, lw_okq q := List.forall_mem_cons.mpr ⟨lw_p16, List.forall_mem_cons.mpr ⟨lw_p17, List.forall_mem_cons.mpr ⟨lw_p18, List.forall_mem_cons.mpr ⟨lw_p19, List.forall_mem_cons.mpr ⟨lw_p20, List.forall_mem_cons.mpr ⟨lw_p21, List.forall_mem_cons.mpr ⟨lw_p22, List.forall_mem_cons.mpr ⟨lw_p23, List.forall_mem_cons.mpr ⟨lw_p24, List.forall_mem_cons.mpr ⟨lw_p25, List.forall_mem_cons.mpr ⟨lw_p26, List.forall_mem_cons.mpr ⟨lw_p27, List.forall_mem_cons.mpr ⟨lw_p28, List.forall_mem_cons.mpr ⟨lw_p29, List.forall_mem_cons.mpr ⟨lw_p30, List.forall_mem_cons.mpr ⟨lw_p31, fun _ h => absurd h List.not_mem_nil⟩⟩⟩⟩⟩⟩⟩⟩⟩⟩⟩⟩⟩⟩⟩⟩
theorem lw_p32 : lw_okq (⟨"ScopeGraph$Resolver", "importedBy", "(II)J"⟩, 5) := ⟨⟨by decide +kernel, by decide +kernel⟩, List.mem_of_getElem? (i := 257) (by decide +kernel), List.mem_of_getElem? (i := 629) (by decide +kernel), List.mem_of_getElem? (i := 630) (by decide +kernel)⟩
theorem lw_p33 : lw_okq (⟨"ScopeGraph$Resolver", "keep", "(IJ)V"⟩, 5) := ⟨⟨by decide +kernel, by decide +kernel⟩, List.mem_of_getElem? (i := 257) (by decide +kernel), List.mem_of_getElem? (i := 634) (by decide +kernel), List.mem_of_getElem? (i := 635) (by decide +kernel)⟩
theorem lw_p34 : lw_okq (⟨"java/lang/Throwable", "fillInStackTrace", "(I)Ljava/lang/Throwable;"⟩, 6) := ⟨⟨by decide +kernel, by decide +kernel⟩, List.mem_of_getElem? (i := 692) (by decide +kernel), List.mem_of_getElem? (i := 690) (by decide +kernel), List.mem_of_getElem? (i := 691) (by decide +kernel)⟩
theorem lw_p35 : lw_okq (⟨"ScopeGraph", "writeNewText", "(JILScopeGraph$Tokens;)V"⟩, 9) := ⟨⟨by decide +kernel, by decide +kernel⟩, List.mem_of_getElem? (i := 24) (by decide +kernel), List.mem_of_getElem? (i := 878) (by decide +kernel), List.mem_of_getElem? (i := 879) (by decide +kernel)⟩
theorem lw_p36 : lw_okq (⟨"ScopeGraphModel", "fails", "(Z)Z"⟩, 74) := ⟨⟨by decide +kernel, by decide +kernel⟩, List.mem_of_getElem? (i := 905) (by decide +kernel), List.mem_of_getElem? (i := 1143) (by decide +kernel), List.mem_of_getElem? (i := 1144) (by decide +kernel)⟩
theorem lw_p37 : lw_okq (⟨"ScopeGraphModel", "four", "(I)V"⟩, 74) := ⟨⟨by decide +kernel, by decide +kernel⟩, List.mem_of_getElem? (i := 905) (by decide +kernel), List.mem_of_getElem? (i := 1147) (by decide +kernel), List.mem_of_getElem? (i := 1148) (by decide +kernel)⟩
theorem lw_p38 : lw_okq (⟨"ScopeGraphModel", "keep", "()V"⟩, 74) := ⟨⟨by decide +kernel, by decide +kernel⟩, List.mem_of_getElem? (i := 905) (by decide +kernel), List.mem_of_getElem? (i := 1159) (by decide +kernel), List.mem_of_getElem? (i := 1160) (by decide +kernel)⟩
theorem lw_p39 : lw_okq (⟨"ScopeGraphModel", "readAll", "()Z"⟩, 74) := ⟨⟨by decide +kernel, by decide +kernel⟩, List.mem_of_getElem? (i := 905) (by decide +kernel), List.mem_of_getElem? (i := 1163) (by decide +kernel), List.mem_of_getElem? (i := 1164) (by decide +kernel)⟩
theorem lw_p40 : lw_okq (⟨"ScopeGraphModel", "next", "()Z"⟩, 74) := ⟨⟨by decide +kernel, by decide +kernel⟩, List.mem_of_getElem? (i := 905) (by decide +kernel), List.mem_of_getElem? (i := 1167) (by decide +kernel), List.mem_of_getElem? (i := 1168) (by decide +kernel)⟩
theorem lw_p41 : lw_okq (⟨"ScopeGraphModel", "byteAt", "(I)I"⟩, 74) := ⟨⟨by decide +kernel, by decide +kernel⟩, List.mem_of_getElem? (i := 905) (by decide +kernel), List.mem_of_getElem? (i := 1171) (by decide +kernel), List.mem_of_getElem? (i := 1172) (by decide +kernel)⟩
theorem lw_p42 : lw_okq (⟨"ScopeGraphModel", "wordOf", "([III)I"⟩, 74) := ⟨⟨by decide +kernel, by decide +kernel⟩, List.mem_of_getElem? (i := 905) (by decide +kernel), List.mem_of_getElem? (i := 1181) (by decide +kernel), List.mem_of_getElem? (i := 1182) (by decide +kernel)⟩
theorem lw_p43 : lw_okq (⟨"ScopeGraphModel", "blame", "(II)Z"⟩, 74) := ⟨⟨by decide +kernel, by decide +kernel⟩, List.mem_of_getElem? (i := 905) (by decide +kernel), List.mem_of_getElem? (i := 1185) (by decide +kernel), List.mem_of_getElem? (i := 1186) (by decide +kernel)⟩
theorem lw_p44 : lw_okq (⟨"ScopeGraphModel", "dec", "()Z"⟩, 74) := ⟨⟨by decide +kernel, by decide +kernel⟩, List.mem_of_getElem? (i := 905) (by decide +kernel), List.mem_of_getElem? (i := 1189) (by decide +kernel), List.mem_of_getElem? (i := 1190) (by decide +kernel)⟩
theorem lw_p45 : lw_okq (⟨"ScopeGraphModel", "odd", "()Z"⟩, 74) := ⟨⟨by decide +kernel, by decide +kernel⟩, List.mem_of_getElem? (i := 905) (by decide +kernel), List.mem_of_getElem? (i := 1193) (by decide +kernel), List.mem_of_getElem? (i := 1194) (by decide +kernel)⟩
theorem lw_p46 : lw_okq (⟨"ScopeGraphModel", "declare", "(II)Z"⟩, 74) := ⟨⟨by decide +kernel, by decide +kernel⟩, List.mem_of_getElem? (i := 905) (by decide +kernel), List.mem_of_getElem? (i := 1197) (by decide +kernel), List.mem_of_getElem? (i := 1198) (by decide +kernel)⟩
theorem lw_p47 : lw_okq (⟨"ScopeGraphModel", "newScope", "(III)Z"⟩, 74) := ⟨⟨by decide +kernel, by decide +kernel⟩, List.mem_of_getElem? (i := 905) (by decide +kernel), List.mem_of_getElem? (i := 1201) (by decide +kernel), List.mem_of_getElem? (i := 1202) (by decide +kernel)⟩
def lw_privs_3 : List (MethodName × Nat) := [(⟨"ScopeGraph$Resolver", "importedBy", "(II)J"⟩, 5), (⟨"ScopeGraph$Resolver", "keep", "(IJ)V"⟩, 5), (⟨"java/lang/Throwable", "fillInStackTrace", "(I)Ljava/lang/Throwable;"⟩, 6), (⟨"ScopeGraph", "writeNewText", "(JILScopeGraph$Tokens;)V"⟩, 9), (⟨"ScopeGraphModel", "fails", "(Z)Z"⟩, 74), (⟨"ScopeGraphModel", "four", "(I)V"⟩, 74), (⟨"ScopeGraphModel", "keep", "()V"⟩, 74), (⟨"ScopeGraphModel", "readAll", "()Z"⟩, 74), (⟨"ScopeGraphModel", "next", "()Z"⟩, 74), (⟨"ScopeGraphModel", "byteAt", "(I)I"⟩, 74), (⟨"ScopeGraphModel", "wordOf", "([III)I"⟩, 74), (⟨"ScopeGraphModel", "blame", "(II)Z"⟩, 74), (⟨"ScopeGraphModel", "dec", "()Z"⟩, 74), (⟨"ScopeGraphModel", "odd", "()Z"⟩, 74), (⟨"ScopeGraphModel", "declare", "(II)Z"⟩, 74), (⟨"ScopeGraphModel", "newScope", "(III)Z"⟩, 74)]
theorem lw_r3 : ∀ q ∈ lw_privs_3, lw_okq q := List.forall_mem_cons.mpr ⟨lw_p32, List.forall_mem_cons.mpr ⟨lw_p33, List.forall_mem_cons.mpr ⟨lw_p34, List.forall_mem_cons.mpr ⟨lw_p35, List.forall_mem_cons.mpr ⟨lw_p36, List.forall_mem_cons.mpr ⟨lw_p37, List.forall_mem_cons.mpr ⟨lw_p38, List.forall_mem_cons.mpr ⟨lw_p39, List.forall_mem_cons.mpr ⟨lw_p40, List.forall_mem_cons.mpr ⟨lw_p41, List.forall_mem_cons.mpr ⟨lw_p42, List.forall_mem_cons.mpr ⟨lw_p43, List.forall_mem_cons.mpr ⟨lw_p44, List.forall_mem_cons.mpr ⟨lw_p45, List.forall_mem_cons.mpr ⟨lw_p46, List.forall_mem_cons.mpr ⟨lw_p47, fun _ h => absurd h List.not_mem_nil⟩⟩⟩⟩⟩⟩⟩⟩⟩⟩⟩⟩⟩⟩⟩⟩
theorem lw_p48 : lw_okq (⟨"ScopeGraphModel", "is", "(I)Z"⟩, 74) := ⟨⟨by decide +kernel, by decide +kernel⟩, List.mem_of_getElem? (i := 905) (by decide +kernel), List.mem_of_getElem? (i := 1205) (by decide +kernel), List.mem_of_getElem? (i := 1206) (by decide +kernel)⟩
theorem lw_p49 : lw_okq (⟨"ScopeGraphModel", "bracket", "()Z"⟩, 74) := ⟨⟨by decide +kernel, by decide +kernel⟩, List.mem_of_getElem? (i := 905) (by decide +kernel), List.mem_of_getElem? (i := 1209) (by decide +kernel), List.mem_of_getElem? (i := 1210) (by decide +kernel)⟩
theorem lw_p50 : lw_okq (⟨"ScopeGraphModel", "open", "(I)V"⟩, 74) := ⟨⟨by decide +kernel, by decide +kernel⟩, List.mem_of_getElem? (i := 905) (by decide +kernel), List.mem_of_getElem? (i := 1213) (by decide +kernel), List.mem_of_getElem? (i := 1214) (by decide +kernel)⟩
theorem lw_p51 : lw_okq (⟨"ScopeGraphModel", "readLong", "()Z"⟩, 74) := ⟨⟨by decide +kernel, by decide +kernel⟩, List.mem_of_getElem? (i := 905) (by decide +kernel), List.mem_of_getElem? (i := 1217) (by decide +kernel), List.mem_of_getElem? (i := 1218) (by decide +kernel)⟩
theorem lw_p52 : lw_okq (⟨"ScopeGraphModel", "exp", "()Z"⟩, 74) := ⟨⟨by decide +kernel, by decide +kernel⟩, List.mem_of_getElem? (i := 905) (by decide +kernel), List.mem_of_getElem? (i := 1221) (by decide +kernel), List.mem_of_getElem? (i := 1222) (by decide +kernel)⟩
theorem lw_p53 : lw_okq (⟨"ScopeGraphModel", "fun", "()Z"⟩, 74) := ⟨⟨by decide +kernel, by decide +kernel⟩, List.mem_of_getElem? (i := 905) (by decide +kernel), List.mem_of_getElem? (i := 1225) (by decide +kernel), List.mem_of_getElem? (i := 1226) (by decide +kernel)⟩
theorem lw_p54 : lw_okq (⟨"ScopeGraphModel", "body", "(I)Z"⟩, 74) := ⟨⟨by decide +kernel, by decide +kernel⟩, List.mem_of_getElem? (i := 905) (by decide +kernel), List.mem_of_getElem? (i := 1229) (by decide +kernel), List.mem_of_getElem? (i := 1230) (by decide +kernel)⟩
theorem lw_p55 : lw_okq (⟨"ScopeGraphModel", "binds", "()Z"⟩, 74) := ⟨⟨by decide +kernel, by decide +kernel⟩, List.mem_of_getElem? (i := 905) (by decide +kernel), List.mem_of_getElem? (i := 1233) (by decide +kernel), List.mem_of_getElem? (i := 1234) (by decide +kernel)⟩
theorem lw_p56 : lw_okq (⟨"ScopeGraphModel", "bind", "()Z"⟩, 74) := ⟨⟨by decide +kernel, by decide +kernel⟩, List.mem_of_getElem? (i := 905) (by decide +kernel), List.mem_of_getElem? (i := 1237) (by decide +kernel), List.mem_of_getElem? (i := 1238) (by decide +kernel)⟩
theorem lw_p57 : lw_okq (⟨"ScopeGraphModel", "ends", "()Z"⟩, 74) := ⟨⟨by decide +kernel, by decide +kernel⟩, List.mem_of_getElem? (i := 905) (by decide +kernel), List.mem_of_getElem? (i := 1241) (by decide +kernel), List.mem_of_getElem? (i := 1242) (by decide +kernel)⟩
theorem lw_p58 : lw_okq (⟨"ScopeGraphModel", "giveBack", "()V"⟩, 74) := ⟨⟨by decide +kernel, by decide +kernel⟩, List.mem_of_getElem? (i := 905) (by decide +kernel), List.mem_of_getElem? (i := 1245) (by decide +kernel), List.mem_of_getElem? (i := 1246) (by decide +kernel)⟩
theorem lw_p59 : lw_okq (⟨"ScopeGraphModel", "takeText", "()V"⟩, 74) := ⟨⟨by decide +kernel, by decide +kernel⟩, List.mem_of_getElem? (i := 905) (by decide +kernel), List.mem_of_getElem? (i := 1249) (by decide +kernel), List.mem_of_getElem? (i := 1250) (by decide +kernel)⟩
theorem lw_p60 : lw_okq (⟨"ScopeGraphModel", "nameAll", "()V"⟩, 74) := ⟨⟨by decide +kernel, by decide +kernel⟩, List.mem_of_getElem? (i := 905) (by decide +kernel), List.mem_of_getElem? (i := 1253) (by decide +kernel), List.mem_of_getElem? (i := 1254) (by decide +kernel)⟩
theorem lw_p61 : lw_okq (⟨"ScopeGraphModel", "nameAt", "(II)I"⟩, 74) := ⟨⟨by decide +kernel, by decide +kernel⟩, List.mem_of_getElem? (i := 905) (by decide +kernel), List.mem_of_getElem? (i := 1257) (by decide +kernel), List.mem_of_getElem? (i := 1258) (by decide +kernel)⟩
theorem lw_p62 : lw_okq (⟨"ScopeGraphModel", "isSame", "(IIII)Z"⟩, 74) := ⟨⟨by decide +kernel, by decide +kernel⟩, List.mem_of_getElem? (i := 905) (by decide +kernel), List.mem_of_getElem? (i := 1261) (by decide +kernel), List.mem_of_getElem? (i := 1262) (by decide +kernel)⟩
theorem lw_p63 : lw_okq (⟨"ScopeGraphModel", "meanAll", "()V"⟩, 74) := ⟨⟨by decide +kernel, by decide +kernel⟩, List.mem_of_getElem? (i := 905) (by decide +kernel), List.mem_of_getElem? (i := 1265) (by decide +kernel), List.mem_of_getElem? (i := 1266) (by decide +kernel)⟩
def lw_privs_4 : List (MethodName × Nat) := [(⟨"ScopeGraphModel", "is", "(I)Z"⟩, 74), (⟨"ScopeGraphModel", "bracket", "()Z"⟩, 74), (⟨"ScopeGraphModel", "open", "(I)V"⟩, 74), (⟨"ScopeGraphModel", "readLong", "()Z"⟩, 74), (⟨"ScopeGraphModel", "exp", "()Z"⟩, 74), (⟨"ScopeGraphModel", "fun", "()Z"⟩, 74), (⟨"ScopeGraphModel", "body", "(I)Z"⟩, 74), (⟨"ScopeGraphModel", "binds", "()Z"⟩, 74), (⟨"ScopeGraphModel", "bind", "()Z"⟩, 74), (⟨"ScopeGraphModel", "ends", "()Z"⟩, 74), (⟨"ScopeGraphModel", "giveBack", "()V"⟩, 74), (⟨"ScopeGraphModel", "takeText", "()V"⟩, 74), (⟨"ScopeGraphModel", "nameAll", "()V"⟩, 74), (⟨"ScopeGraphModel", "nameAt", "(II)I"⟩, 74), (⟨"ScopeGraphModel", "isSame", "(IIII)Z"⟩, 74), (⟨"ScopeGraphModel", "meanAll", "()V"⟩, 74)]
theorem lw_r4 : ∀ q ∈ lw_privs_4, lw_okq q := List.forall_mem_cons.mpr ⟨lw_p48, List.forall_mem_cons.mpr ⟨lw_p49, List.forall_mem_cons.mpr ⟨lw_p50, List.forall_mem_cons.mpr ⟨lw_p51, List.forall_mem_cons.mpr ⟨lw_p52, List.forall_mem_cons.mpr ⟨lw_p53, List.forall_mem_cons.mpr ⟨lw_p54, List.forall_mem_cons.mpr ⟨lw_p55, List.forall_mem_cons.mpr ⟨lw_p56, List.forall_mem_cons.mpr ⟨lw_p57, List.forall_mem_cons.mpr ⟨lw_p58, List.forall_mem_cons.mpr ⟨lw_p59, List.forall_mem_cons.mpr ⟨lw_p60, List.forall_mem_cons.mpr ⟨lw_p61, List.forall_mem_cons.mpr ⟨lw_p62, List.forall_mem_cons.mpr ⟨lw_p63, fun _ h => absurd h List.not_mem_nil⟩⟩⟩⟩⟩⟩⟩⟩⟩⟩⟩⟩⟩⟩⟩⟩
theorem lw_p64 : lw_okq (⟨"ScopeGraphModel", "mean", "(I)V"⟩, 74) := ⟨⟨by decide +kernel, by decide +kernel⟩, List.mem_of_getElem? (i := 905) (by decide +kernel), List.mem_of_getElem? (i := 1269) (by decide +kernel), List.mem_of_getElem? (i := 1270) (by decide +kernel)⟩
theorem lw_p65 : lw_okq (⟨"ScopeGraphModel", "askMeans", "(IJJ)V"⟩, 74) := ⟨⟨by decide +kernel, by decide +kernel⟩, List.mem_of_getElem? (i := 905) (by decide +kernel), List.mem_of_getElem? (i := 1273) (by decide +kernel), List.mem_of_getElem? (i := 1274) (by decide +kernel)⟩
theorem lw_p66 : lw_okq (⟨"ScopeGraphModel", "ask", "(IIIJJJ)V"⟩, 74) := ⟨⟨by decide +kernel, by decide +kernel⟩, List.mem_of_getElem? (i := 905) (by decide +kernel), List.mem_of_getElem? (i := 1277) (by decide +kernel), List.mem_of_getElem? (i := 1278) (by decide +kernel)⟩
theorem lw_p67 : lw_okq (⟨"ScopeGraphModel", "visible", "(I)V"⟩, 74) := ⟨⟨by decide +kernel, by decide +kernel⟩, List.mem_of_getElem? (i := 905) (by decide +kernel), List.mem_of_getElem? (i := 1281) (by decide +kernel), List.mem_of_getElem? (i := 1282) (by decide +kernel)⟩
theorem lw_p68 : lw_okq (⟨"ScopeGraphModel", "here", "(II)J"⟩, 74) := ⟨⟨by decide +kernel, by decide +kernel⟩, List.mem_of_getElem? (i := 905) (by decide +kernel), List.mem_of_getElem? (i := 1288) (by decide +kernel), List.mem_of_getElem? (i := 1289) (by decide +kernel)⟩
theorem lw_p69 : lw_okq (⟨"ScopeGraphModel", "says", "(J)V"⟩, 74) := ⟨⟨by decide +kernel, by decide +kernel⟩, List.mem_of_getElem? (i := 905) (by decide +kernel), List.mem_of_getElem? (i := 1292) (by decide +kernel), List.mem_of_getElem? (i := 1293) (by decide +kernel)⟩
theorem lw_p70 : lw_okq (⟨"ScopeGraphModel", "imports", "(I)V"⟩, 74) := ⟨⟨by decide +kernel, by decide +kernel⟩, List.mem_of_getElem? (i := 905) (by decide +kernel), List.mem_of_getElem? (i := 1296) (by decide +kernel), List.mem_of_getElem? (i := 1297) (by decide +kernel)⟩
theorem lw_p71 : lw_okq (⟨"ScopeGraphModel", "local", "(I)V"⟩, 74) := ⟨⟨by decide +kernel, by decide +kernel⟩, List.mem_of_getElem? (i := 905) (by decide +kernel), List.mem_of_getElem? (i := 1301) (by decide +kernel), List.mem_of_getElem? (i := 1302) (by decide +kernel)⟩
theorem lw_p72 : lw_okq (⟨"ScopeGraphModel", "friendsOf", "(I)J"⟩, 74) := ⟨⟨by decide +kernel, by decide +kernel⟩, List.mem_of_getElem? (i := 905) (by decide +kernel), List.mem_of_getElem? (i := 1324) (by decide +kernel), List.mem_of_getElem? (i := 1325) (by decide +kernel)⟩
theorem lw_p73 : lw_okq (⟨"ScopeGraphModel", "isName", "()Z"⟩, 74) := ⟨⟨by decide +kernel, by decide +kernel⟩, List.mem_of_getElem? (i := 905) (by decide +kernel), List.mem_of_getElem? (i := 1344) (by decide +kernel), List.mem_of_getElem? (i := 1345) (by decide +kernel)⟩
theorem lw_p74 : lw_okq (⟨"ScopeGraphModel", "isTape", "(II)Z"⟩, 74) := ⟨⟨by decide +kernel, by decide +kernel⟩, List.mem_of_getElem? (i := 905) (by decide +kernel), List.mem_of_getElem? (i := 1348) (by decide +kernel), List.mem_of_getElem? (i := 1349) (by decide +kernel)⟩
theorem lw_p75 : lw_okq (⟨"ScopeGraphModel", "build", "(J)Z"⟩, 74) := ⟨⟨by decide +kernel, by decide +kernel⟩, List.mem_of_getElem? (i := 905) (by decide +kernel), List.mem_of_getElem? (i := 1352) (by decide +kernel), List.mem_of_getElem? (i := 1353) (by decide +kernel)⟩
def lw_privs_5 : List (MethodName × Nat) := [(⟨"ScopeGraphModel", "mean", "(I)V"⟩, 74), (⟨"ScopeGraphModel", "askMeans", "(IJJ)V"⟩, 74), (⟨"ScopeGraphModel", "ask", "(IIIJJJ)V"⟩, 74), (⟨"ScopeGraphModel", "visible", "(I)V"⟩, 74), (⟨"ScopeGraphModel", "here", "(II)J"⟩, 74), (⟨"ScopeGraphModel", "says", "(J)V"⟩, 74), (⟨"ScopeGraphModel", "imports", "(I)V"⟩, 74), (⟨"ScopeGraphModel", "local", "(I)V"⟩, 74), (⟨"ScopeGraphModel", "friendsOf", "(I)J"⟩, 74), (⟨"ScopeGraphModel", "isName", "()Z"⟩, 74), (⟨"ScopeGraphModel", "isTape", "(II)Z"⟩, 74), (⟨"ScopeGraphModel", "build", "(J)Z"⟩, 74)]
theorem lw_r5 : ∀ q ∈ lw_privs_5, lw_okq q := List.forall_mem_cons.mpr ⟨lw_p64, List.forall_mem_cons.mpr ⟨lw_p65, List.forall_mem_cons.mpr ⟨lw_p66, List.forall_mem_cons.mpr ⟨lw_p67, List.forall_mem_cons.mpr ⟨lw_p68, List.forall_mem_cons.mpr ⟨lw_p69, List.forall_mem_cons.mpr ⟨lw_p70, List.forall_mem_cons.mpr ⟨lw_p71, List.forall_mem_cons.mpr ⟨lw_p72, List.forall_mem_cons.mpr ⟨lw_p73, List.forall_mem_cons.mpr ⟨lw_p74, List.forall_mem_cons.mpr ⟨lw_p75, fun _ h => absurd h List.not_mem_nil⟩⟩⟩⟩⟩⟩⟩⟩⟩⟩⟩⟩
def lw_privs : List (MethodName × Nat) := lw_privs_1 ++ (lw_privs_2 ++ (lw_privs_3 ++ (lw_privs_4 ++ (lw_privs_5))))
def lw_tbl : List Cond := k2_sels lw_privs ++ tables_1
theorem lw_privs_ok : ∀ q ∈ lw_privs, lw_okq q := by
  show ∀ q ∈ lw_privs_1 ++ (lw_privs_2 ++ (lw_privs_3 ++ (lw_privs_4 ++ (lw_privs_5)))), lw_okq q
  exact List.forall_mem_append.mpr ⟨lw_r1, List.forall_mem_append.mpr ⟨lw_r2, List.forall_mem_append.mpr ⟨lw_r3, List.forall_mem_append.mpr ⟨lw_r4, lw_r5⟩⟩⟩⟩
-- ===== end of PART A; then your names; then what follows =====
end
section
def RX0 : String := "ScopeGraph$Marks"
def TX0 : u_T := fun k => match k with
  | 0 => ("ScopeGraph$Marks", "scopes", "[I", true)
  | 1 => ("ScopeGraph$Marks", "places", "[I", true)
  | 2 => ("ScopeGraph$Marks", "highs", "[J", true)
  | 3 => ("ScopeGraph$Marks", "lows", "[J", true)
  | _ => ("ScopeGraph$Marks", "size", "I", false)
def tyX0 : Nat → FieldType := fun k => match k with
  | 0 => .array .int
  | 1 => .array .int
  | 2 => .array .long
  | 3 => .array .long
  | _ => .int
abbrev wsX00 : List Cond := u_ws RX0 TX0 5
theorem nmX0 : ∀ a, a < 5 → ∀ b, b < 5 → a ≠ b → (TX0 a).2.1 ≠ (TX0 b).2.1 := by decide +kernel
theorem tyX0_ok : ∀ k, k < 5 → parseFieldDescriptor (TX0 k).2.2.1 = some (tyX0 k) := by decide +kernel
abbrev cX0_init : ByteArray := prog_2_method_1_code
def yX0_init : MethodName := ⟨RX0, "<init>", "(I)V"⟩
abbrev cX0_has : ByteArray := prog_2_method_2_code
def yX0_has : MethodName := ⟨RX0, "has", "(I)Z"⟩
abbrev cX0_add : ByteArray := prog_2_method_3_code
def yX0_add : MethodName := ⟨RX0, "add", "(ILScopeGraph$Tokens;)I"⟩
abbrev cX0_standsAt : ByteArray := prog_2_method_4_code
def yX0_standsAt : MethodName := ⟨RX0, "standsAt", "(II)Z"⟩
abbrev cX0_move : ByteArray := prog_2_method_5_code
def yX0_move : MethodName := ⟨RX0, "move", "(IIZLScopeGraph$Tokens;)V"⟩
abbrev cX0_lengthOf : ByteArray := prog_2_method_6_code
def yX0_lengthOf : MethodName := ⟨RX0, "lengthOf", "(I)I"⟩
abbrev cX0_isNamed : ByteArray := prog_2_method_7_code
def yX0_isNamed : MethodName := ⟨RX0, "isNamed", "(IJJ)Z"⟩
abbrev cX0_named : ByteArray := prog_2_method_8_code
def yX0_named : MethodName := ⟨RX0, "named", "(JJ)J"⟩
def RX1 : String := "ScopeGraph$Meaning"
def TX1 : u_T := fun k => match k with
  | 0 => ("ScopeGraph$Meaning", "namesakes", "[J", true)
  | 1 => ("ScopeGraph$Meaning", "meanings", "[J", true)
  | 2 => ("ScopeGraph$Meaning", "ups", "[I", true)
  | _ => ("ScopeGraph$Meaning", "nears", "[I", true)
def tyX1 : Nat → FieldType := fun k => match k with
  | 0 => .array .long
  | 1 => .array .long
  | 2 => .array .int
  | _ => .array .int
abbrev wsX10 : List Cond := u_ws RX1 TX1 4
theorem nmX1 : ∀ a, a < 4 → ∀ b, b < 4 → a ≠ b → (TX1 a).2.1 ≠ (TX1 b).2.1 := by decide +kernel
theorem tyX1_ok : ∀ k, k < 4 → parseFieldDescriptor (TX1 k).2.2.1 = some (tyX1 k) := by decide +kernel
abbrev cX1_init : ByteArray := prog_3_method_1_code
def yX1_init : MethodName := ⟨RX1, "<init>", "()V"⟩
abbrev cX1_compareNames : ByteArray := prog_3_method_2_code
def yX1_compareNames : MethodName := ⟨RX1, "compareNames", "(LScopeGraph$Program;)V"⟩
abbrev cX1_supposeName : ByteArray := prog_3_method_3_code
def yX1_supposeName : MethodName := ⟨RX1, "supposeName", "(LScopeGraph$Program;LScopeGraph$Meaning;JLScopeGraph$Tokens;)V"⟩
abbrev cX1_agreesWith : ByteArray := prog_3_method_4_code
def yX1_agreesWith : MethodName := ⟨RX1, "agreesWith", "(LScopeGraph$Meaning;I)Z"⟩
abbrev cX1_howManyMean : ByteArray := prog_3_method_5_code
def yX1_howManyMean : MethodName := ⟨RX1, "howManyMean", "(III)I"⟩
abbrev cX1_usersOf : ByteArray := prog_3_method_6_code
def yX1_usersOf : MethodName := ⟨RX1, "usersOf", "(JI)I"⟩
abbrev cX1_friendsOf : ByteArray := prog_3_method_7_code
def yX1_friendsOf : MethodName := ⟨RX1, "friendsOf", "(II)J"⟩
def RX2 : String := "ScopeGraph$Program"
def TX2 : u_T := fun k => match k with
  | 0 => ("ScopeGraph$Program", "declarations", "LScopeGraph$Marks;", true)
  | 1 => ("ScopeGraph$Program", "references", "LScopeGraph$Marks;", true)
  | 2 => ("ScopeGraph$Program", "parents", "[I", true)
  | 3 => ("ScopeGraph$Program", "kinds", "[I", true)
  | 4 => ("ScopeGraph$Program", "declared", "[J", true)
  | 5 => ("ScopeGraph$Program", "imported", "[I", true)
  | 6 => ("ScopeGraph$Program", "owned", "[I", true)
  | 7 => ("ScopeGraph$Program", "importers", "[I", true)
  | 8 => ("ScopeGraph$Program", "statementOf", "[I", true)
  | 9 => ("ScopeGraph$Program", "firsts", "[I", true)
  | 10 => ("ScopeGraph$Program", "lasts", "[I", true)
  | 11 => ("ScopeGraph$Program", "scopes", "I", false)
  | _ => ("ScopeGraph$Program", "statements", "I", false)
def tyX2 : Nat → FieldType := fun k => match k with
  | 0 => .object "ScopeGraph$Marks"
  | 1 => .object "ScopeGraph$Marks"
  | 2 => .array .int
  | 3 => .array .int
  | 4 => .array .long
  | 5 => .array .int
  | 6 => .array .int
  | 7 => .array .int
  | 8 => .array .int
  | 9 => .array .int
  | 10 => .array .int
  | 11 => .int
  | _ => .int
abbrev wsX20 : List Cond := u_ws RX2 TX2 13
theorem nmX2 : ∀ a, a < 13 → ∀ b, b < 13 → a ≠ b → (TX2 a).2.1 ≠ (TX2 b).2.1 := by decide +kernel
theorem tyX2_ok : ∀ k, k < 13 → parseFieldDescriptor (TX2 k).2.2.1 = some (tyX2 k) := by decide +kernel
abbrev cX2_init : ByteArray := prog_4_method_1_code
def yX2_init : MethodName := ⟨RX2, "<init>", "()V"⟩
abbrev cX2_empty : ByteArray := prog_4_method_2_code
def yX2_empty : MethodName := ⟨RX2, "empty", "()V"⟩
abbrev cX2_makeScope : ByteArray := prog_4_method_3_code
def yX2_makeScope : MethodName := ⟨RX2, "makeScope", "(II)I"⟩
abbrev cX2_declare : ByteArray := prog_4_method_4_code
def yX2_declare : MethodName := ⟨RX2, "declare", "(ILScopeGraph$Tokens;)I"⟩
abbrev cX2_refer : ByteArray := prog_4_method_5_code
def yX2_refer : MethodName := ⟨RX2, "refer", "(ILScopeGraph$Tokens;)I"⟩
abbrev cX2_importFrom : ByteArray := prog_4_method_6_code
def yX2_importFrom : MethodName := ⟨RX2, "importFrom", "(II)V"⟩
abbrev cX2_importsInAll : ByteArray := prog_4_method_7_code
def yX2_importsInAll : MethodName := ⟨RX2, "importsInAll", "()I"⟩
abbrev cX2_importsOf : ByteArray := prog_4_method_8_code
def yX2_importsOf : MethodName := ⟨RX2, "importsOf", "(I)I"⟩
abbrev cX2_referencesIn : ByteArray := prog_4_method_9_code
def yX2_referencesIn : MethodName := ⟨RX2, "referencesIn", "(I)I"⟩
abbrev cX2_ownedBy : ByteArray := prog_4_method_10_code
def yX2_ownedBy : MethodName := ⟨RX2, "ownedBy", "(J)J"⟩
def RX3 : String := "ScopeGraph$Reader"
def TX3 : u_T := fun k => match k with
  | 0 => ("ScopeGraph$Reader", "tokens", "LScopeGraph$Tokens;", true)
  | 1 => ("ScopeGraph$Reader", "frames", "[I", true)
  | 2 => ("ScopeGraph$Reader", "outers", "[I", true)
  | 3 => ("ScopeGraph$Reader", "inners", "[I", true)
  | 4 => ("ScopeGraph$Reader", "program", "LScopeGraph$Program;", false)
  | 5 => ("ScopeGraph$Reader", "depth", "I", false)
  | 6 => ("ScopeGraph$Reader", "open", "I", false)
  | 7 => ("ScopeGraph$Reader", "here", "I", false)
  | 8 => ("ScopeGraph$Reader", "state", "I", false)
  | _ => ("ScopeGraph$Reader", "longStart", "I", false)
def tyX3 : Nat → FieldType := fun k => match k with
  | 0 => .object "ScopeGraph$Tokens"
  | 1 => .array .int
  | 2 => .array .int
  | 3 => .array .int
  | 4 => .object "ScopeGraph$Program"
  | 5 => .int
  | 6 => .int
  | 7 => .int
  | 8 => .int
  | _ => .int
abbrev wsX30 : List Cond := u_ws RX3 TX3 10
theorem nmX3 : ∀ a, a < 10 → ∀ b, b < 10 → a ≠ b → (TX3 a).2.1 ≠ (TX3 b).2.1 := by decide +kernel
theorem tyX3_ok : ∀ k, k < 10 → parseFieldDescriptor (TX3 k).2.2.1 = some (tyX3 k) := by decide +kernel
abbrev cX3_init : ByteArray := prog_5_method_1_code
def yX3_init : MethodName := ⟨RX3, "<init>", "(LScopeGraph$Program;)V"⟩
abbrev cX3_parse : ByteArray := prog_5_method_2_code
def yX3_parse : MethodName := ⟨RX3, "parse", "(LScopeGraph$Tape;LScopeGraph$Program;)I"⟩
abbrev cX3_place : ByteArray := prog_5_method_3_code
def yX3_place : MethodName := ⟨RX3, "place", "()I"⟩
abbrev cX3_take : ByteArray := prog_5_method_4_code
def yX3_take : MethodName := ⟨RX3, "take", "(I)I"⟩
abbrev cX3_takeDec : ByteArray := prog_5_method_5_code
def yX3_takeDec : MethodName := ⟨RX3, "takeDec", "(I)I"⟩
abbrev cX3_takeAtom : ByteArray := prog_5_method_6_code
def yX3_takeAtom : MethodName := ⟨RX3, "takeAtom", "(I)I"⟩
abbrev cX3_takeScopeWord : ByteArray := prog_5_method_7_code
def yX3_takeScopeWord : MethodName := ⟨RX3, "takeScopeWord", "(II)I"⟩
abbrev cX3_takeBehindAtom : ByteArray := prog_5_method_8_code
def yX3_takeBehindAtom : MethodName := ⟨RX3, "takeBehindAtom", "(I)I"⟩
abbrev cX3_hasBinds : ByteArray := prog_5_method_9_code
def yX3_hasBinds : MethodName := ⟨RX3, "hasBinds", "(I)Z"⟩
abbrev cX3_takeName : ByteArray := prog_5_method_10_code
def yX3_takeName : MethodName := ⟨RX3, "takeName", "()I"⟩
abbrev cX3_takeModuleName : ByteArray := prog_5_method_11_code
def yX3_takeModuleName : MethodName := ⟨RX3, "takeModuleName", "()I"⟩
abbrev cX3_takeImportName : ByteArray := prog_5_method_12_code
def yX3_takeImportName : MethodName := ⟨RX3, "takeImportName", "()I"⟩
abbrev cX3_takeImportEnd : ByteArray := prog_5_method_13_code
def yX3_takeImportEnd : MethodName := ⟨RX3, "takeImportEnd", "()I"⟩
abbrev cX3_takeBindName : ByteArray := prog_5_method_14_code
def yX3_takeBindName : MethodName := ⟨RX3, "takeBindName", "()I"⟩
abbrev cX3_takeIn : ByteArray := prog_5_method_15_code
def yX3_takeIn : MethodName := ⟨RX3, "takeIn", "()I"⟩
abbrev cX3_takeFirstOfLong : ByteArray := prog_5_method_16_code
def yX3_takeFirstOfLong : MethodName := ⟨RX3, "takeFirstOfLong", "()I"⟩
abbrev cX3_takeNextOfLong : ByteArray := prog_5_method_17_code
def yX3_takeNextOfLong : MethodName := ⟨RX3, "takeNextOfLong", "()I"⟩
abbrev cX3_declareIn : ByteArray := prog_5_method_18_code
def yX3_declareIn : MethodName := ⟨RX3, "declareIn", "(II)I"⟩
abbrev cX3_turnTo : ByteArray := prog_5_method_19_code
def yX3_turnTo : MethodName := ⟨RX3, "turnTo", "(I)I"⟩
abbrev cX3_openTo : ByteArray := prog_5_method_20_code
def yX3_openTo : MethodName := ⟨RX3, "openTo", "(I)I"⟩
abbrev cX3_closeTo : ByteArray := prog_5_method_21_code
def yX3_closeTo : MethodName := ⟨RX3, "closeTo", "(I)I"⟩
abbrev cX3_popTo : ByteArray := prog_5_method_22_code
def yX3_popTo : MethodName := ⟨RX3, "popTo", "(I)I"⟩
abbrev cX3_push : ByteArray := prog_5_method_23_code
def yX3_push : MethodName := ⟨RX3, "push", "(II)V"⟩
abbrev cX3_setTop : ByteArray := prog_5_method_24_code
def yX3_setTop : MethodName := ⟨RX3, "setTop", "(II)V"⟩
abbrev cX3_topFrame : ByteArray := prog_5_method_25_code
def yX3_topFrame : MethodName := ⟨RX3, "topFrame", "()I"⟩
abbrev cX3_topOuter : ByteArray := prog_5_method_26_code
def yX3_topOuter : MethodName := ⟨RX3, "topOuter", "()I"⟩
abbrev cX3_topInner : ByteArray := prog_5_method_27_code
def yX3_topInner : MethodName := ⟨RX3, "topInner", "()I"⟩
def RX4 : String := "ScopeGraph$Resolver"
def TX4 : u_T := fun k => match k with
  | 0 => ("ScopeGraph$Resolver", "brought", "[J", true)
  | 1 => ("ScopeGraph$Resolver", "program", "LScopeGraph$Program;", false)
  | 2 => ("ScopeGraph$Resolver", "meaning", "LScopeGraph$Meaning;", false)
  | 3 => ("ScopeGraph$Resolver", "levelFound", "I", false)
  | _ => ("ScopeGraph$Resolver", "scopeFound", "I", false)
def tyX4 : Nat → FieldType := fun k => match k with
  | 0 => .array .long
  | 1 => .object "ScopeGraph$Program"
  | 2 => .object "ScopeGraph$Meaning"
  | 3 => .int
  | _ => .int
abbrev wsX40 : List Cond := u_ws RX4 TX4 5
theorem nmX4 : ∀ a, a < 5 → ∀ b, b < 5 → a ≠ b → (TX4 a).2.1 ≠ (TX4 b).2.1 := by decide +kernel
theorem tyX4_ok : ∀ k, k < 5 → parseFieldDescriptor (TX4 k).2.2.1 = some (tyX4 k) := by decide +kernel
abbrev cX4_init : ByteArray := prog_6_method_1_code
def yX4_init : MethodName := ⟨RX4, "<init>", "(LScopeGraph$Program;LScopeGraph$Meaning;)V"⟩
abbrev cX4_resolve : ByteArray := prog_6_method_2_code
def yX4_resolve : MethodName := ⟨RX4, "resolve", "(LScopeGraph$Program;LScopeGraph$Meaning;)V"⟩
abbrev cX4_keep : ByteArray := prog_6_method_3_code
def yX4_keep : MethodName := ⟨RX4, "keep", "(IJ)V"⟩
abbrev cX4_followStatements : ByteArray := prog_6_method_4_code
def yX4_followStatements : MethodName := ⟨RX4, "followStatements", "(I)V"⟩
abbrev cX4_means : ByteArray := prog_6_method_5_code
def yX4_means : MethodName := ⟨RX4, "means", "(IJI)J"⟩
abbrev cX4_local : ByteArray := prog_6_method_6_code
def yX4_local : MethodName := ⟨RX4, "local", "(JJI)J"⟩
abbrev cX4_importedBy : ByteArray := prog_6_method_7_code
def yX4_importedBy : MethodName := ⟨RX4, "importedBy", "(II)J"⟩
def RX5 : String := "ScopeGraph$Tape"
def TX5 : u_T := fun k => match k with
  | 0 => ("ScopeGraph$Tape", "bytes", "[B", true)
  | _ => ("ScopeGraph$Tape", "size", "I", false)
def tyX5 : Nat → FieldType := fun k => match k with
  | 0 => .array .byte
  | _ => .int
abbrev wsX50 : List Cond := u_ws RX5 TX5 2
theorem nmX5 : ∀ a, a < 2 → ∀ b, b < 2 → a ≠ b → (TX5 a).2.1 ≠ (TX5 b).2.1 := by decide +kernel
theorem tyX5_ok : ∀ k, k < 2 → parseFieldDescriptor (TX5 k).2.2.1 = some (tyX5 k) := by decide +kernel
abbrev cX5_init : ByteArray := prog_7_method_1_code
def yX5_init : MethodName := ⟨RX5, "<init>", "()V"⟩
abbrev cX5_at : ByteArray := prog_7_method_2_code
def yX5_at : MethodName := ⟨RX5, "at", "(I)I"⟩
abbrev cX5_add : ByteArray := prog_7_method_3_code
def yX5_add : MethodName := ⟨RX5, "add", "(I)V"⟩
abbrev cX5_addFour : ByteArray := prog_7_method_4_code
def yX5_addFour : MethodName := ⟨RX5, "addFour", "(I)V"⟩
abbrev cX5_addName : ByteArray := prog_7_method_5_code
def yX5_addName : MethodName := ⟨RX5, "addName", "(JJ)V"⟩
def RX6 : String := "ScopeGraph$Tokens"
def TX6 : u_T := fun k => match k with
  | 0 => ("ScopeGraph$Tokens", "kind", "I", false)
  | 1 => ("ScopeGraph$Tokens", "start", "I", false)
  | 2 => ("ScopeGraph$Tokens", "length", "I", false)
  | 3 => ("ScopeGraph$Tokens", "high", "J", false)
  | _ => ("ScopeGraph$Tokens", "low", "J", false)
def tyX6 : Nat → FieldType := fun k => match k with
  | 0 => .int
  | 1 => .int
  | 2 => .int
  | 3 => .long
  | _ => .long
abbrev wsX60 : List Cond := u_ws RX6 TX6 5
theorem nmX6 : ∀ a, a < 5 → ∀ b, b < 5 → a ≠ b → (TX6 a).2.1 ≠ (TX6 b).2.1 := by decide +kernel
theorem tyX6_ok : ∀ k, k < 5 → parseFieldDescriptor (TX6 k).2.2.1 = some (tyX6 k) := by decide +kernel
abbrev cX6_init : ByteArray := prog_8_method_1_code
def yX6_init : MethodName := ⟨RX6, "<init>", "()V"⟩
abbrev cX6_begin : ByteArray := prog_8_method_2_code
def yX6_begin : MethodName := ⟨RX6, "begin", "()V"⟩
abbrev cX6_advance : ByteArray := prog_8_method_3_code
def yX6_advance : MethodName := ⟨RX6, "advance", "(LScopeGraph$Tape;)V"⟩
abbrev cX6_areJustOneName : ByteArray := prog_8_method_4_code
def yX6_areJustOneName : MethodName := ⟨RX6, "areJustOneName", "(LScopeGraph$Tape;)Z"⟩
abbrev cX6_takeName : ByteArray := prog_8_method_5_code
def yX6_takeName : MethodName := ⟨RX6, "takeName", "(LScopeGraph$Tape;)V"⟩
abbrev cX6_packByte : ByteArray := prog_8_method_6_code
def yX6_packByte : MethodName := ⟨RX6, "packByte", "(II)V"⟩
abbrev cX6_takeNumber : ByteArray := prog_8_method_7_code
def yX6_takeNumber : MethodName := ⟨RX6, "takeNumber", "(LScopeGraph$Tape;)V"⟩
abbrev cX6_wordOrName : ByteArray := prog_8_method_8_code
def yX6_wordOrName : MethodName := ⟨RX6, "wordOrName", "()I"⟩
abbrev cX6_isWord : ByteArray := prog_8_method_9_code
def yX6_isWord : MethodName := ⟨RX6, "isWord", "(I)Z"⟩
abbrev cX6_behindBlanks : ByteArray := prog_8_method_10_code
def yX6_behindBlanks : MethodName := ⟨RX6, "behindBlanks", "(LScopeGraph$Tape;I)I"⟩
abbrev cX6_isBlank : ByteArray := prog_8_method_11_code
def yX6_isBlank : MethodName := ⟨RX6, "isBlank", "(I)Z"⟩
abbrev cX6_isDigit : ByteArray := prog_8_method_12_code
def yX6_isDigit : MethodName := ⟨RX6, "isDigit", "(I)Z"⟩
abbrev cX6_beginsName : ByteArray := prog_8_method_13_code
def yX6_beginsName : MethodName := ⟨RX6, "beginsName", "(I)Z"⟩
abbrev cX6_isInName : ByteArray := prog_8_method_14_code
def yX6_isInName : MethodName := ⟨RX6, "isInName", "(I)Z"⟩
def RX7 : String := "ScopeGraph"
def TX7 : u_T := fun k => match k with
  | 0 => ("ScopeGraph", "tape", "LScopeGraph$Tape;", false)
  | 1 => ("ScopeGraph", "text", "LScopeGraph$Tape;", false)
  | 2 => ("ScopeGraph", "program", "LScopeGraph$Program;", false)
  | 3 => ("ScopeGraph", "draft", "LScopeGraph$Program;", false)
  | 4 => ("ScopeGraph", "meaning", "LScopeGraph$Meaning;", false)
  | 5 => ("ScopeGraph", "trial", "LScopeGraph$Meaning;", false)
  | 6 => ("ScopeGraph", "reader", "LScopeGraph$Reader;", true)
  | 7 => ("ScopeGraph", "resolver", "LScopeGraph$Resolver;", true)
  | _ => ("ScopeGraph", "latestFault", "I", false)
def tyX7 : Nat → FieldType := fun k => match k with
  | 0 => .object "ScopeGraph$Tape"
  | 1 => .object "ScopeGraph$Tape"
  | 2 => .object "ScopeGraph$Program"
  | 3 => .object "ScopeGraph$Program"
  | 4 => .object "ScopeGraph$Meaning"
  | 5 => .object "ScopeGraph$Meaning"
  | 6 => .object "ScopeGraph$Reader"
  | 7 => .object "ScopeGraph$Resolver"
  | _ => .int
abbrev wsX70 : List Cond := u_ws RX7 TX7 9
theorem nmX7 : ∀ a, a < 9 → ∀ b, b < 9 → a ≠ b → (TX7 a).2.1 ≠ (TX7 b).2.1 := by decide +kernel
theorem tyX7_ok : ∀ k, k < 9 → parseFieldDescriptor (TX7 k).2.2.1 = some (tyX7 k) := by decide +kernel
abbrev cX7_init : ByteArray := prog_1_method_1_code
def yX7_init : MethodName := ⟨RX7, "<init>", "()V"⟩
abbrev cX7_feed : ByteArray := prog_1_method_2_code
def yX7_feed : MethodName := ⟨RX7, "feed", "(IIIII)I"⟩
abbrev cX7_end : ByteArray := prog_1_method_3_code
def yX7_end : MethodName := ⟨RX7, "end", "(I)V"⟩
abbrev cX7_read : ByteArray := prog_1_method_4_code
def yX7_read : MethodName := ⟨RX7, "read", "()I"⟩
abbrev cX7_fault : ByteArray := prog_1_method_5_code
def yX7_fault : MethodName := ⟨RX7, "fault", "()I"⟩
abbrev cX7_count : ByteArray := prog_1_method_6_code
def yX7_count : MethodName := ⟨RX7, "count", "(I)I"⟩
abbrev cX7_scope : ByteArray := prog_1_method_7_code
def yX7_scope : MethodName := ⟨RX7, "scope", "(II)I"⟩
abbrev cX7_declaration : ByteArray := prog_1_method_8_code
def yX7_declaration : MethodName := ⟨RX7, "declaration", "(II)I"⟩
abbrev cX7_reference : ByteArray := prog_1_method_9_code
def yX7_reference : MethodName := ⟨RX7, "reference", "(II)I"⟩
abbrev cX7_meant : ByteArray := prog_1_method_10_code
def yX7_meant : MethodName := ⟨RX7, "meant", "(II)I"⟩
abbrev cX7_friends : ByteArray := prog_1_method_11_code
def yX7_friends : MethodName := ⟨RX7, "friends", "(II)Z"⟩
abbrev cX7_rename : ByteArray := prog_1_method_12_code
def yX7_rename : MethodName := ⟨RX7, "rename", "(I)I"⟩
abbrev cX7_letter : ByteArray := prog_1_method_13_code
def yX7_letter : MethodName := ⟨RX7, "letter", "(I)I"⟩
abbrev cX7_swapTapes : ByteArray := prog_1_method_14_code
def yX7_swapTapes : MethodName := ⟨RX7, "swapTapes", "()V"⟩
abbrev cX7_writeNewText : ByteArray := prog_1_method_15_code
def yX7_writeNewText : MethodName := ⟨RX7, "writeNewText", "(JILScopeGraph$Tokens;)V"⟩
abbrev cX7_lowest : ByteArray := prog_1_method_16_code
def yX7_lowest : MethodName := ⟨RX7, "lowest", "(J)I"⟩
abbrev cX7_nameByte : ByteArray := prog_1_method_17_code
def yX7_nameByte : MethodName := ⟨RX7, "nameByte", "(JJI)I"⟩
def RX8 : String := "ScopeGraphModel"
def TX8 : u_T := fun k => match k with
  | 0 => ("ScopeGraphModel", "code", "I", false)
  | 1 => ("ScopeGraphModel", "tape", "[I", true)
  | 2 => ("ScopeGraphModel", "tapeSize", "I", false)
  | 3 => ("ScopeGraphModel", "text", "[I", true)
  | 4 => ("ScopeGraphModel", "textSize", "I", false)
  | 5 => ("ScopeGraphModel", "made", "[I", true)
  | 6 => ("ScopeGraphModel", "madeSize", "I", false)
  | 7 => ("ScopeGraphModel", "faultKind", "I", false)
  | 8 => ("ScopeGraphModel", "scopeParent", "[I", true)
  | 9 => ("ScopeGraphModel", "scopeKind", "[I", true)
  | 10 => ("ScopeGraphModel", "scopes", "I", false)
  | 11 => ("ScopeGraphModel", "declScope", "[I", true)
  | 12 => ("ScopeGraphModel", "declPlace", "[I", true)
  | 13 => ("ScopeGraphModel", "declSize", "[I", true)
  | 14 => ("ScopeGraphModel", "declHas", "[I", true)
  | 15 => ("ScopeGraphModel", "decls", "I", false)
  | 16 => ("ScopeGraphModel", "refScope", "[I", true)
  | 17 => ("ScopeGraphModel", "refPlace", "[I", true)
  | 18 => ("ScopeGraphModel", "refSize", "[I", true)
  | 19 => ("ScopeGraphModel", "refImporter", "[I", true)
  | 20 => ("ScopeGraphModel", "refs", "I", false)
  | 21 => ("ScopeGraphModel", "textImports", "I", false)
  | 22 => ("ScopeGraphModel", "keptParent", "[I", true)
  | 23 => ("ScopeGraphModel", "keptKind", "[I", true)
  | 24 => ("ScopeGraphModel", "keptScopes", "I", false)
  | 25 => ("ScopeGraphModel", "keptDeclScope", "[I", true)
  | 26 => ("ScopeGraphModel", "keptDeclPlace", "[I", true)
  | 27 => ("ScopeGraphModel", "keptDeclSize", "[I", true)
  | 28 => ("ScopeGraphModel", "keptDeclHas", "[I", true)
  | 29 => ("ScopeGraphModel", "keptDecls", "I", false)
  | 30 => ("ScopeGraphModel", "keptRefScope", "[I", true)
  | 31 => ("ScopeGraphModel", "keptRefPlace", "[I", true)
  | 32 => ("ScopeGraphModel", "keptRefSize", "[I", true)
  | 33 => ("ScopeGraphModel", "keptRefImporter", "[I", true)
  | 34 => ("ScopeGraphModel", "keptRefs", "I", false)
  | 35 => ("ScopeGraphModel", "words", "[I", true)
  | 36 => ("ScopeGraphModel", "begins", "[I", true)
  | 37 => ("ScopeGraphModel", "at", "I", false)
  | 38 => ("ScopeGraphModel", "token", "I", false)
  | 39 => ("ScopeGraphModel", "sign", "I", false)
  | 40 => ("ScopeGraphModel", "place", "I", false)
  | 41 => ("ScopeGraphModel", "length", "I", false)
  | 42 => ("ScopeGraphModel", "faultPlace", "I", false)
  | 43 => ("ScopeGraphModel", "oKind", "[I", true)
  | 44 => ("ScopeGraphModel", "oScope", "[I", true)
  | 45 => ("ScopeGraphModel", "oSort", "[I", true)
  | 46 => ("ScopeGraphModel", "oNew", "[I", true)
  | 47 => ("ScopeGraphModel", "opened", "I", false)
  | 48 => ("ScopeGraphModel", "brackets", "I", false)
  | 49 => ("ScopeGraphModel", "scope", "I", false)
  | 50 => ("ScopeGraphModel", "isFurther", "Z", false)
  | 51 => ("ScopeGraphModel", "atoms", "I", false)
  | 52 => ("ScopeGraphModel", "declName", "[I", true)
  | 53 => ("ScopeGraphModel", "refName", "[I", true)
  | 54 => ("ScopeGraphModel", "qKind", "[I", true)
  | 55 => ("ScopeGraphModel", "qStep", "[I", true)
  | 56 => ("ScopeGraphModel", "qScope", "[I", true)
  | 57 => ("ScopeGraphModel", "qName", "[I", true)
  | 58 => ("ScopeGraphModel", "qLow", "[J", true)
  | 59 => ("ScopeGraphModel", "qHigh", "[J", true)
  | 60 => ("ScopeGraphModel", "qScopes", "[J", true)
  | 61 => ("ScopeGraphModel", "qAll", "[J", true)
  | 62 => ("ScopeGraphModel", "qOpen", "[J", true)
  | 63 => ("ScopeGraphModel", "qNext", "[I", true)
  | 64 => ("ScopeGraphModel", "questions", "I", false)
  | 65 => ("ScopeGraphModel", "answer", "J", false)
  | 66 => ("ScopeGraphModel", "up", "I", false)
  | 67 => ("ScopeGraphModel", "near", "Z", false)
  | 68 => ("ScopeGraphModel", "means", "[J", true)
  | 69 => ("ScopeGraphModel", "upOf", "[I", true)
  | 70 => ("ScopeGraphModel", "nearOf", "[Z", true)
  | 71 => ("ScopeGraphModel", "before", "[J", true)
  | 72 => ("ScopeGraphModel", "renamed", "[Z", true)
  | _ => ("ScopeGraphModel", "lastFault", "I", false)
def tyX8 : Nat → FieldType := fun k => match k with
  | 0 => .int
  | 1 => .array .int
  | 2 => .int
  | 3 => .array .int
  | 4 => .int
  | 5 => .array .int
  | 6 => .int
  | 7 => .int
  | 8 => .array .int
  | 9 => .array .int
  | 10 => .int
  | 11 => .array .int
  | 12 => .array .int
  | 13 => .array .int
  | 14 => .array .int
  | 15 => .int
  | 16 => .array .int
  | 17 => .array .int
  | 18 => .array .int
  | 19 => .array .int
  | 20 => .int
  | 21 => .int
  | 22 => .array .int
  | 23 => .array .int
  | 24 => .int
  | 25 => .array .int
  | 26 => .array .int
  | 27 => .array .int
  | 28 => .array .int
  | 29 => .int
  | 30 => .array .int
  | 31 => .array .int
  | 32 => .array .int
  | 33 => .array .int
  | 34 => .int
  | 35 => .array .int
  | 36 => .array .int
  | 37 => .int
  | 38 => .int
  | 39 => .int
  | 40 => .int
  | 41 => .int
  | 42 => .int
  | 43 => .array .int
  | 44 => .array .int
  | 45 => .array .int
  | 46 => .array .int
  | 47 => .int
  | 48 => .int
  | 49 => .int
  | 50 => .boolean
  | 51 => .int
  | 52 => .array .int
  | 53 => .array .int
  | 54 => .array .int
  | 55 => .array .int
  | 56 => .array .int
  | 57 => .array .int
  | 58 => .array .long
  | 59 => .array .long
  | 60 => .array .long
  | 61 => .array .long
  | 62 => .array .long
  | 63 => .array .int
  | 64 => .int
  | 65 => .long
  | 66 => .int
  | 67 => .boolean
  | 68 => .array .long
  | 69 => .array .int
  | 70 => .array .boolean
  | 71 => .array .long
  | 72 => .array .boolean
  | _ => .int
abbrev wsX80 : List Cond := u_ws RX8 TX8 74
theorem nmX8 : ∀ a, a < 74 → ∀ b, b < 74 → a ≠ b → (TX8 a).2.1 ≠ (TX8 b).2.1 := by decide +kernel
theorem tyX8_ok : ∀ k, k < 74 → parseFieldDescriptor (TX8 k).2.2.1 = some (tyX8 k) := by decide +kernel
abbrev cX8_init : ByteArray := prog_10_method_1_code
def yX8_init : MethodName := ⟨RX8, "<init>", "()V"⟩
abbrev cX8_thrown : ByteArray := prog_10_method_2_code
def yX8_thrown : MethodName := ⟨RX8, "thrown", "()I"⟩
abbrev cX8_fails : ByteArray := prog_10_method_3_code
def yX8_fails : MethodName := ⟨RX8, "fails", "(Z)Z"⟩
abbrev cX8_feed : ByteArray := prog_10_method_4_code
def yX8_feed : MethodName := ⟨RX8, "feed", "(IIIII)I"⟩
abbrev cX8_four : ByteArray := prog_10_method_5_code
def yX8_four : MethodName := ⟨RX8, "four", "(I)V"⟩
abbrev cX8_end : ByteArray := prog_10_method_6_code
def yX8_end : MethodName := ⟨RX8, "end", "(I)V"⟩
abbrev cX8_blame : ByteArray := prog_10_method_7_code
def yX8_blame : MethodName := ⟨RX8, "blame", "(II)Z"⟩
abbrev cX8_isLetter : ByteArray := prog_10_method_8_code
def yX8_isLetter : MethodName := ⟨RX8, "isLetter", "(I)Z"⟩
abbrev cX8_isDigit : ByteArray := prog_10_method_9_code
def yX8_isDigit : MethodName := ⟨RX8, "isDigit", "(I)Z"⟩
abbrev cX8_byteAt : ByteArray := prog_10_method_10_code
def yX8_byteAt : MethodName := ⟨RX8, "byteAt", "(I)I"⟩
abbrev cX8_wordOf : ByteArray := prog_10_method_11_code
def yX8_wordOf : MethodName := ⟨RX8, "wordOf", "([III)I"⟩
abbrev cX8_next : ByteArray := prog_10_method_12_code
def yX8_next : MethodName := ⟨RX8, "next", "()Z"⟩
abbrev cX8_is : ByteArray := prog_10_method_13_code
def yX8_is : MethodName := ⟨RX8, "is", "(I)Z"⟩
abbrev cX8_newScope : ByteArray := prog_10_method_14_code
def yX8_newScope : MethodName := ⟨RX8, "newScope", "(III)Z"⟩
abbrev cX8_declare : ByteArray := prog_10_method_15_code
def yX8_declare : MethodName := ⟨RX8, "declare", "(II)Z"⟩
abbrev cX8_bracket : ByteArray := prog_10_method_16_code
def yX8_bracket : MethodName := ⟨RX8, "bracket", "()Z"⟩
abbrev cX8_open : ByteArray := prog_10_method_17_code
def yX8_open : MethodName := ⟨RX8, "open", "(I)V"⟩
abbrev cX8_odd : ByteArray := prog_10_method_18_code
def yX8_odd : MethodName := ⟨RX8, "odd", "()Z"⟩
abbrev cX8_readAll : ByteArray := prog_10_method_19_code
def yX8_readAll : MethodName := ⟨RX8, "readAll", "()Z"⟩
abbrev cX8_dec : ByteArray := prog_10_method_20_code
def yX8_dec : MethodName := ⟨RX8, "dec", "()Z"⟩
abbrev cX8_readLong : ByteArray := prog_10_method_21_code
def yX8_readLong : MethodName := ⟨RX8, "readLong", "()Z"⟩
abbrev cX8_exp : ByteArray := prog_10_method_22_code
def yX8_exp : MethodName := ⟨RX8, "exp", "()Z"⟩
abbrev cX8_fun : ByteArray := prog_10_method_23_code
def yX8_fun : MethodName := ⟨RX8, "fun", "()Z"⟩
abbrev cX8_body : ByteArray := prog_10_method_24_code
def yX8_body : MethodName := ⟨RX8, "body", "(I)Z"⟩
abbrev cX8_binds : ByteArray := prog_10_method_25_code
def yX8_binds : MethodName := ⟨RX8, "binds", "()Z"⟩
abbrev cX8_bind : ByteArray := prog_10_method_26_code
def yX8_bind : MethodName := ⟨RX8, "bind", "()Z"⟩
abbrev cX8_ends : ByteArray := prog_10_method_27_code
def yX8_ends : MethodName := ⟨RX8, "ends", "()Z"⟩
abbrev cX8_keep : ByteArray := prog_10_method_28_code
def yX8_keep : MethodName := ⟨RX8, "keep", "()V"⟩
abbrev cX8_giveBack : ByteArray := prog_10_method_29_code
def yX8_giveBack : MethodName := ⟨RX8, "giveBack", "()V"⟩
abbrev cX8_read : ByteArray := prog_10_method_30_code
def yX8_read : MethodName := ⟨RX8, "read", "()I"⟩
abbrev cX8_takeText : ByteArray := prog_10_method_31_code
def yX8_takeText : MethodName := ⟨RX8, "takeText", "()V"⟩
abbrev cX8_fault : ByteArray := prog_10_method_32_code
def yX8_fault : MethodName := ⟨RX8, "fault", "()I"⟩
abbrev cX8_isSame : ByteArray := prog_10_method_33_code
def yX8_isSame : MethodName := ⟨RX8, "isSame", "(IIII)Z"⟩
abbrev cX8_nameAt : ByteArray := prog_10_method_34_code
def yX8_nameAt : MethodName := ⟨RX8, "nameAt", "(II)I"⟩
abbrev cX8_nameAll : ByteArray := prog_10_method_35_code
def yX8_nameAll : MethodName := ⟨RX8, "nameAll", "()V"⟩
abbrev cX8_ask : ByteArray := prog_10_method_36_code
def yX8_ask : MethodName := ⟨RX8, "ask", "(IIIJJJ)V"⟩
abbrev cX8_says : ByteArray := prog_10_method_37_code
def yX8_says : MethodName := ⟨RX8, "says", "(J)V"⟩
abbrev cX8_here : ByteArray := prog_10_method_38_code
def yX8_here : MethodName := ⟨RX8, "here", "(II)J"⟩
abbrev cX8_has : ByteArray := prog_10_method_39_code
def yX8_has : MethodName := ⟨RX8, "has", "(JI)Z"⟩
abbrev cX8_mean : ByteArray := prog_10_method_40_code
def yX8_mean : MethodName := ⟨RX8, "mean", "(I)V"⟩
abbrev cX8_askMeans : ByteArray := prog_10_method_41_code
def yX8_askMeans : MethodName := ⟨RX8, "askMeans", "(IJJ)V"⟩
abbrev cX8_visible : ByteArray := prog_10_method_42_code
def yX8_visible : MethodName := ⟨RX8, "visible", "(I)V"⟩
abbrev cX8_local : ByteArray := prog_10_method_43_code
def yX8_local : MethodName := ⟨RX8, "local", "(I)V"⟩
abbrev cX8_imports : ByteArray := prog_10_method_44_code
def yX8_imports : MethodName := ⟨RX8, "imports", "(I)V"⟩
abbrev cX8_meanAll : ByteArray := prog_10_method_45_code
def yX8_meanAll : MethodName := ⟨RX8, "meanAll", "()V"⟩
abbrev cX8_many : ByteArray := prog_10_method_46_code
def yX8_many : MethodName := ⟨RX8, "many", "(J)I"⟩
abbrev cX8_count : ByteArray := prog_10_method_47_code
def yX8_count : MethodName := ⟨RX8, "count", "(I)I"⟩
abbrev cX8_scope : ByteArray := prog_10_method_48_code
def yX8_scope : MethodName := ⟨RX8, "scope", "(II)I"⟩
abbrev cX8_friendsOf : ByteArray := prog_10_method_49_code
def yX8_friendsOf : MethodName := ⟨RX8, "friendsOf", "(I)J"⟩
abbrev cX8_declaration : ByteArray := prog_10_method_50_code
def yX8_declaration : MethodName := ⟨RX8, "declaration", "(II)I"⟩
abbrev cX8_reference : ByteArray := prog_10_method_51_code
def yX8_reference : MethodName := ⟨RX8, "reference", "(II)I"⟩
abbrev cX8_meant : ByteArray := prog_10_method_52_code
def yX8_meant : MethodName := ⟨RX8, "meant", "(II)I"⟩
abbrev cX8_friends : ByteArray := prog_10_method_53_code
def yX8_friends : MethodName := ⟨RX8, "friends", "(II)Z"⟩
abbrev cX8_isName : ByteArray := prog_10_method_54_code
def yX8_isName : MethodName := ⟨RX8, "isName", "()Z"⟩
abbrev cX8_isTape : ByteArray := prog_10_method_55_code
def yX8_isTape : MethodName := ⟨RX8, "isTape", "(II)Z"⟩
abbrev cX8_rename : ByteArray := prog_10_method_56_code
def yX8_rename : MethodName := ⟨RX8, "rename", "(I)I"⟩
abbrev cX8_build : ByteArray := prog_10_method_57_code
def yX8_build : MethodName := ⟨RX8, "build", "(J)Z"⟩
abbrev cX8_letter : ByteArray := prog_10_method_58_code
def yX8_letter : MethodName := ⟨RX8, "letter", "(I)I"⟩
def RL : String := "ScopeGraphLaw"
abbrev cL_feed : ByteArray := method_3_code
def yL_feed : MethodName := ⟨RL, "feed", "(LScopeGraph;IIIII[J)I"⟩
abbrev cL_end : ByteArray := method_4_code
def yL_end : MethodName := ⟨RL, "end", "(LScopeGraph;I)I"⟩
abbrev cL_count : ByteArray := method_5_code
def yL_count : MethodName := ⟨RL, "count", "(LScopeGraph;I[J)I"⟩
abbrev cL_scope : ByteArray := method_6_code
def yL_scope : MethodName := ⟨RL, "scope", "(LScopeGraph;II[J)I"⟩
abbrev cL_declaration : ByteArray := method_7_code
def yL_declaration : MethodName := ⟨RL, "declaration", "(LScopeGraph;II[J)I"⟩
abbrev cL_reference : ByteArray := method_8_code
def yL_reference : MethodName := ⟨RL, "reference", "(LScopeGraph;II[J)I"⟩
abbrev cL_meant : ByteArray := method_9_code
def yL_meant : MethodName := ⟨RL, "meant", "(LScopeGraph;II[J)I"⟩
abbrev cL_friends : ByteArray := method_10_code
def yL_friends : MethodName := ⟨RL, "friends", "(LScopeGraph;II[J)I"⟩
abbrev cL_rename : ByteArray := method_11_code
def yL_rename : MethodName := ⟨RL, "rename", "(LScopeGraph;I[J)I"⟩
abbrev cL_letter : ByteArray := method_12_code
def yL_letter : MethodName := ⟨RL, "letter", "(LScopeGraph;I[J)I"⟩
abbrev cL_law : ByteArray := code
def yL_law : MethodName := ⟨RL, "law", "([I)Z"⟩
abbrev vwCl : List vw_C := [(RX0, TX0, 5), (RX1, TX1, 4), (RX2, TX2, 13), (RX3, TX3, 10), (RX4, TX4, 5), (RX5, TX5, 2), (RX6, TX6, 5), (RX7, TX7, 9), (RX8, TX8, 74)]
end
section
/-! THE WORLD: one flat memory of all cells that the system and the reference made. A cell has a number k (the order of making); its places hold whole numbers (ints, bytes, truth values), longs, or references. -/
abbrev gM : Type := (Nat → Nat → Int32) × (Nat → Nat → Int64) × (Nat → Nat → Option Nat)
/-- what a cell is: an object of the class of that number in vwCl, or an array of that element type and length -/
abbrev gS : Type := Nat ⊕ (FieldType × Nat)
def gsI (μ : gM) (k j : Nat) (v : Int32) : gM := (fun a b => if a = k ∧ b = j then v else μ.1 a b, μ.2.1, μ.2.2)
def gsL (μ : gM) (k j : Nat) (v : Int64) : gM := (μ.1, fun a b => if a = k ∧ b = j then v else μ.2.1 a b, μ.2.2)
def gsR (μ : gM) (k j : Nat) (v : Option Nat) : gM := (μ.1, μ.2.1, fun a b => if a = k ∧ b = j then v else μ.2.2 a b)
def gN : Nat → Nat
  | 0 => 5
  | 1 => 4
  | 2 => 13
  | 3 => 10
  | 4 => 5
  | 5 => 2
  | 6 => 5
  | 7 => 9
  | _ => 74
def gT : Nat → Nat → FieldType
  | 0 => tyX0
  | 1 => tyX1
  | 2 => tyX2
  | 3 => tyX3
  | 4 => tyX4
  | 5 => tyX5
  | 6 => tyX6
  | 7 => tyX7
  | _ => tyX8
def g_fv (ad : Nat → Nat) (μ : gM) (k j : Nat) (ty : FieldType) : Value := match ty with
  | .long => .long (μ.2.1 k j)
  | .object _ => va_rf ((μ.2.2 k j).map ad)
  | .array _ => va_rf ((μ.2.2 k j).map ad)
  | _ => .int (μ.1 k j)
def g_ar (μ : gM) (k : Nat) (ty : FieldType) : (Nat → Int32) ⊕ (Nat → Int64) ⊕ (Nat → UInt32) ⊕ (Nat → UInt64) ⊕ (Nat → Option Nat) := match ty with
  | .long => .inr (.inl (μ.2.1 k))
  | _ => .inl (μ.1 k)
def g_ce (ad : Nat → Nat) (cA : FieldType → ClassId) (μ : gM) (k : Nat) (x : gS) : va_E := match x with
  | .inl ci => .inr (ci, (List.range (gN ci)).map (fun j => g_fv ad μ k j (gT ci j)))
  | .inr q => .inl (cA q.1, q.2, g_ar μ k q.1)
def g_wl (ad : Nat → Nat) (cA : FieldType → ClassId) (sh : List gS) (μ : gM) : va_W := (List.range sh.length).map (fun k => (ad k, g_ce ad cA μ k (sh.getD k (.inl 0))))
theorem g_wl_at {ad : Nat → Nat} {cA : FieldType → ClassId} {sh : List gS} {μ : gM} {k : Nat} {x : gS} (h : sh[k]? = some x) : (g_wl ad cA sh μ)[k]? = some (ad k, g_ce ad cA μ k x) := by
  have hk : k < sh.length := (List.getElem?_eq_some_iff.mp h).1
  simp [g_wl, hk]
  rw [(List.getElem?_eq_some_iff.mp h).2]
theorem g_wl_len {ad : Nat → Nat} {cA : FieldType → ClassId} {sh : List gS} {μ : gM} : (g_wl ad cA sh μ).length = sh.length := by simp [g_wl]
/-- a store into one cell -/
theorem g_wl_set {ad : Nat → Nat} {cA : FieldType → ClassId} {sh : List gS} {μ μ' : gM} {k : Nat} {x : gS} {e : va_E} (h : sh[k]? = some x) (he : g_ce ad cA μ' k x = e) (ho : ∀ j, j ≠ k → ∀ y, g_ce ad cA μ' j y = g_ce ad cA μ j y) : (g_wl ad cA sh μ).set k (ad k, e) = g_wl ad cA sh μ' := by
  apply List.ext_getElem?
  intro i
  by_cases hi : i = k
  · subst hi
    have hk : i < sh.length := (List.getElem?_eq_some_iff.mp h).1
    rw [g_wl_at h, List.getElem?_set_self (by rw [g_wl_len]; exact hk), he]
  · rw [List.getElem?_set_ne (fun q => hi q.symm)]
    by_cases hl : i < sh.length
    · have h1 : sh[i]? = some sh[i] := List.getElem?_eq_getElem hl
      rw [g_wl_at h1, g_wl_at h1, ho i hi]
    · rw [List.getElem?_eq_none (by rw [g_wl_len]; omega), List.getElem?_eq_none (by rw [g_wl_len]; omega)]
theorem g_ce_ne {ad : Nat → Nat} {cA : FieldType → ClassId} {μ μ' : gM} {j : Nat} (h1 : μ'.1 j = μ.1 j) (h2 : μ'.2.1 j = μ.2.1 j) (h3 : μ'.2.2 j = μ.2.2 j) (y : gS) : g_ce ad cA μ' j y = g_ce ad cA μ j y := by
  have hf : ∀ i ty, g_fv ad μ' j i ty = g_fv ad μ j i ty := by
    intro i ty
    cases ty <;> simp [g_fv, h1, h2, h3]
  have ha : ∀ ty, g_ar μ' j ty = g_ar μ j ty := by
    intro ty
    cases ty <;> simp [g_ar, h1, h2]
  cases y with
  | inl ci => simp [g_ce, hf]
  | inr q => simp [g_ce, ha]
theorem gsI_ne {μ : gM} {k j : Nat} {v : Int32} {a : Nat} (h : a ≠ k) : (gsI μ k j v).1 a = μ.1 a := by
  funext b
  simp [gsI, h]
theorem gsL_ne {μ : gM} {k j : Nat} {v : Int64} {a : Nat} (h : a ≠ k) : (gsL μ k j v).2.1 a = μ.2.1 a := by
  funext b
  simp [gsL, h]
theorem gsR_ne {μ : gM} {k j : Nat} {v : Option Nat} {a : Nat} (h : a ≠ k) : (gsR μ k j v).2.2 a = μ.2.2 a := by
  funext b
  simp [gsR, h]
theorem g_oI {ad : Nat → Nat} {cA : FieldType → ClassId} {μ : gM} {k j : Nat} {v : Int32} : ∀ i, i ≠ k → ∀ y, g_ce ad cA (gsI μ k j v) i y = g_ce ad cA μ i y := fun _ h y => g_ce_ne (gsI_ne h) rfl rfl y
theorem g_oL {ad : Nat → Nat} {cA : FieldType → ClassId} {μ : gM} {k j : Nat} {v : Int64} : ∀ i, i ≠ k → ∀ y, g_ce ad cA (gsL μ k j v) i y = g_ce ad cA μ i y := fun i h y => g_ce_ne (μ := μ) (μ' := gsL μ k j v) (j := i) rfl (gsL_ne h) rfl y
theorem g_oR {ad : Nat → Nat} {cA : FieldType → ClassId} {μ : gM} {k j : Nat} {v : Option Nat} : ∀ i, i ≠ k → ∀ y, g_ce ad cA (gsR μ k j v) i y = g_ce ad cA μ i y := fun i h y => g_ce_ne (μ := μ) (μ' := gsR μ k j v) (j := i) rfl rfl (gsR_ne h) y
/-- a field's value changed -/
theorem g_fs_set {ad : Nat → Nat} {μ μ' : gM} {k ci j : Nat} {v : Value} (hj : j < gN ci) (hv : g_fv ad μ' k j (gT ci j) = v) (ho : ∀ i, i ≠ j → g_fv ad μ' k i (gT ci i) = g_fv ad μ k i (gT ci i)) :
    ((List.range (gN ci)).map (fun i => g_fv ad μ k i (gT ci i))).set j v = (List.range (gN ci)).map (fun i => g_fv ad μ' k i (gT ci i)) := by
  apply List.ext_getElem?
  intro i
  by_cases hi : i = j
  · subst hi
    rw [List.getElem?_set_self (by simp [hj])]
    simp [hj, hv]
  · rw [List.getElem?_set_ne (fun q => hi q.symm)]
    by_cases hl : i < gN ci
    · simp [hl, ho i hi]
    · simp [hl]
theorem g_fsI {ad : Nat → Nat} {μ : gM} {k ci j : Nat} {v : Int32} (hj : j < gN ci) (ht : g_fv ad (gsI μ k j v) k j (gT ci j) = .int v) : ((List.range (gN ci)).map (fun i => g_fv ad μ k i (gT ci i))).set j (.int v) = (List.range (gN ci)).map (fun i => g_fv ad (gsI μ k j v) k i (gT ci i)) := by
  refine g_fs_set hj ht (fun i hi => ?_)
  generalize gT ci i = ty
  cases ty <;> simp [g_fv, gsI, hi]
theorem g_fsL {ad : Nat → Nat} {μ : gM} {k ci j : Nat} {v : Int64} (hj : j < gN ci) (ht : g_fv ad (gsL μ k j v) k j (gT ci j) = .long v) : ((List.range (gN ci)).map (fun i => g_fv ad μ k i (gT ci i))).set j (.long v) = (List.range (gN ci)).map (fun i => g_fv ad (gsL μ k j v) k i (gT ci i)) := by
  refine g_fs_set hj ht (fun i hi => ?_)
  generalize gT ci i = ty
  cases ty <;> simp [g_fv, gsL, hi]
theorem g_fsR {ad : Nat → Nat} {μ : gM} {k ci j : Nat} {v : Option Nat} {w : Value} (hj : j < gN ci) (ht : g_fv ad (gsR μ k j v) k j (gT ci j) = w) : ((List.range (gN ci)).map (fun i => g_fv ad μ k i (gT ci i))).set j w = (List.range (gN ci)).map (fun i => g_fv ad (gsR μ k j v) k i (gT ci i)) := by
  refine g_fs_set hj ht (fun i hi => ?_)
  generalize gT ci i = ty
  cases ty <;> simp [g_fv, gsR, hi]
end
section
/-! A METHOD'S BODY over the flat memory. X: the machine (program, launch, environment, room, start state, method, arguments, frames below, method, code); w: the world (class numbers, array classes, addresses, the first new address, the cells' kinds). -/
abbrev gX : Type := Program × Launch × Env × Room × State × MethodId × Array Value × List Frame × Method × Code
abbrev gW : Type := va_G × (FieldType → ClassId) × (Nat → Nat) × Nat × List gS × (State → Prop)
abbrev gK : Type := List (Nat × Instr × Nat)
def gTb : List Cond := lw_tbl.filter goodWord
def g_isN : Cond → Bool
  | .fieldLinkNest _ _ _ _ _ _ => true
  | .methodLinkNest _ _ _ _ => true
  | _ => false
def gNb : List Cond := lw_tbl.filter g_isN
def g_tys (cA : FieldType → ClassId) : List (ClassId × FieldType) := [(cA .int, .int), (cA .long, .long), (cA .byte, .byte), (cA .boolean, .boolean)]
def tv (ad : Nat → Nat) : Value → Value
  | .ref k => .ref (ad k)
  | v => v
def tvp (ad : Nat → Nat) (q : Nat × Value) : Nat × Value := (q.1, tv ad q.2)
theorem tv_cat (ad : Nat → Nat) (v : Value) : (tv ad v).category = v.category := by cases v <;> rfl
def gA (w : gW) : Nat → Prop := fun q => w.2.2.2.1 ≤ q
def gwl (w : gW) (μ : gM) : va_W := g_wl w.2.2.1 w.2.1 w.2.2.2.2.1 μ
/-- what a body may use: the machine's words, the method's instructions, its room (d frames), the tables' words; J: what else the start gives and no step takes away -/
def gC (X : gX) (w : gW) (K : gK) (nL : Nat) (own : String) (d : Nat) : Prop :=
  X.1.tables.exec = Jvm.exec ∧ (∀ q ∈ K, decode X.2.2.2.2.2.2.2.2.2.code q.1 = .ok q.2) ∧ X.2.2.2.2.2.2.2.2.2.maxLocals = nL ∧ X.2.2.2.2.1.vm.findClass own = some X.2.2.2.2.2.1.cls ∧ (∀ q ∈ gTb, q.before X.2.2.2.2.2.2.1 X.2.2.2.2.1 = true) ∧ (∀ q ∈ gNb, va_Nw q X.2.2.2.2.1) ∧ va_K w.1 vwCl (g_tys w.2.1) X.2.2.2.2.1 ∧ X.2.2.2.2.2.2.2.2.1.locks = false ∧ d ≤ X.2.2.2.1.frames ∧ 37 * d ≤ X.2.2.2.1.locals ∧ w.2.2.2.2.2 X.2.2.2.2.1 ∧ (∀ u U : State, w.2.2.2.2.2 u → u.WarmedH U.vm → va_F (gA w) u U → w.2.2.2.2.2 U)
def gV (X : gX) (w : gW) (kc ks : Nat) (Q : State → Prop) (nL pc : Nat) (lv : List (Nat × Value)) (st : List Value) (μ : gM) : Prop :=
  ∀ (H : Heap) (locs : List Loc) (ls : Array Slot), va_P w.1 vwCl (gwl w μ) H → va_D (gA w) (gwl w μ) → va_S (gA w) X.2.2.2.2.1.heap H locs → lv_has ls nL (lv.map (tvp w.2.2.1)) →
    W X.1 X.2.1 X.2.2.1 X.2.2.2.1 X.2.2.2.2.1 X.2.2.2.2.2.1 X.2.2.2.2.2.2.1 X.2.2.2.2.2.2.2.1 X.2.2.2.2.2.2.2.2.1 X.2.2.2.2.2.2.2.2.2 H locs kc ks Q (F0 X.2.2.2.2.2.1 pc ls (st.map (tv w.2.2.1)))
theorem g_at {X : gX} {w : gW} {K : gK} {nL d : Nat} {own : String} (C : gC X w K nL own d) (i : Nat) {pc len : Nat} {ins : Instr} (h : K[i]? = some (pc, ins, len)) : decode X.2.2.2.2.2.2.2.2.2.code pc = .ok (ins, len) := C.2.1 (pc, ins, len) (List.mem_of_getElem? h)
theorem g_lv {ad : Nat → Nat} {ls : Array Slot} {nL : Nat} {lv : List (Nat × Value)} (h : lv_has ls nL (lv.map (tvp ad))) (j : Nat) {i : Nat} {v : Value} (hj : lv[j]? = some (i, v)) : ls[i]? = some (.val (tv ad v)) := lv_at h j (by rw [List.getElem?_map, hj]; rfl)
def g_s1 (lv : List (Nat × Value)) (i : Nat) (v : Value) : List (Nat × Value) := (i, v) :: lv.filter (fun q => !(q.1 == i) && !(q.1 + 1 == i && q.2.category == 2))
def g_s2 (lv : List (Nat × Value)) (i : Nat) (v : Value) : List (Nat × Value) := (i, v) :: lv.filter (fun q => !(q.1 == i) && (!(q.1 == i + 1) && !(q.1 + 1 == i && q.2.category == 2)))
theorem g_fm {ad : Nat → Nat} (f : Nat → Nat → Bool) (lv : List (Nat × Value)) : (lv.map (tvp ad)).filter (fun q => f q.1 q.2.category) = (lv.filter (fun q => f q.1 q.2.category)).map (tvp ad) := by
  rw [List.filter_map]
  congr 1
  apply List.filter_congr
  intro q _
  simp [tvp, tv_cat]
theorem g_s1m {ad : Nat → Nat} (lv : List (Nat × Value)) (i : Nat) (v : Value) : (i, tv ad v) :: (lv.map (tvp ad)).filter (fun q => !(q.1 == i) && !(q.1 + 1 == i && q.2.category == 2)) = (g_s1 lv i v).map (tvp ad) := by
  rw [g_fm (fun a c => !(a == i) && !(a + 1 == i && c == 2)) lv]
  rfl
theorem g_s2m {ad : Nat → Nat} (lv : List (Nat × Value)) (i : Nat) (v : Value) : (i, tv ad v) :: (lv.map (tvp ad)).filter (fun q => !(q.1 == i) && (!(q.1 == i + 1) && !(q.1 + 1 == i && q.2.category == 2))) = (g_s2 lv i v).map (tvp ad) := by
  rw [g_fm (fun a c => !(a == i) && (!(a == i + 1) && !(a + 1 == i && c == 2))) lv]
  rfl
section GV
variable {X : gX} {w : gW} {K : gK} {kc ks nL pc d : Nat} {own : String} {Q : State → Prop} {lv lv' : List (Nat × Value)} {st : List Value} {μ : gM}
theorem v_sub (lv' : List (Nat × Value)) (ks' : List Nat) (hs : lv_pick lv ks' = lv') (k : gV X w kc ks Q nL pc lv' st μ) : gV X w kc ks Q nL pc lv st μ := fun H locs ls hP hD hS hl => k H locs ls hP hD hS (lv_sub hl ks' (by
  rw [← hs]
  simp only [lv_pick, List.map_filterMap, List.getElem?_map]))
theorem v_iadd (C : gC X w K nL own d) (i : Nat) {x : Int32} {y : Int32} (hd : K[i]? = some (pc, .iadd, 1)) (k : gV X w kc ks Q nL (pc + 1) lv (.int (x + y) :: st) μ) : gV X w kc ks Q nL pc lv (.int y :: .int x :: st) μ := fun H locs ls hP hD hS hl => lv_iadd C.1 rfl (g_at C i hd) (k H locs ls hP hD hS hl)
theorem v_isub (C : gC X w K nL own d) (i : Nat) {x : Int32} {y : Int32} (hd : K[i]? = some (pc, .isub, 1)) (k : gV X w kc ks Q nL (pc + 1) lv (.int (x - y) :: st) μ) : gV X w kc ks Q nL pc lv (.int y :: .int x :: st) μ := fun H locs ls hP hD hS hl => lv_isub C.1 rfl (g_at C i hd) (k H locs ls hP hD hS hl)
theorem v_imul (C : gC X w K nL own d) (i : Nat) {x : Int32} {y : Int32} (hd : K[i]? = some (pc, .imul, 1)) (k : gV X w kc ks Q nL (pc + 1) lv (.int (x * y) :: st) μ) : gV X w kc ks Q nL pc lv (.int y :: .int x :: st) μ := fun H locs ls hP hD hS hl => lv_imul C.1 rfl (g_at C i hd) (k H locs ls hP hD hS hl)
theorem v_iand (C : gC X w K nL own d) (i : Nat) {x : Int32} {y : Int32} (hd : K[i]? = some (pc, .iand, 1)) (k : gV X w kc ks Q nL (pc + 1) lv (.int (x &&& y) :: st) μ) : gV X w kc ks Q nL pc lv (.int y :: .int x :: st) μ := fun H locs ls hP hD hS hl => lv_iand C.1 rfl (g_at C i hd) (k H locs ls hP hD hS hl)
theorem v_ior (C : gC X w K nL own d) (i : Nat) {x : Int32} {y : Int32} (hd : K[i]? = some (pc, .ior, 1)) (k : gV X w kc ks Q nL (pc + 1) lv (.int (x ||| y) :: st) μ) : gV X w kc ks Q nL pc lv (.int y :: .int x :: st) μ := fun H locs ls hP hD hS hl => lv_ior C.1 rfl (g_at C i hd) (k H locs ls hP hD hS hl)
theorem v_ixor (C : gC X w K nL own d) (i : Nat) {x : Int32} {y : Int32} (hd : K[i]? = some (pc, .ixor, 1)) (k : gV X w kc ks Q nL (pc + 1) lv (.int (x ^^^ y) :: st) μ) : gV X w kc ks Q nL pc lv (.int y :: .int x :: st) μ := fun H locs ls hP hD hS hl => lv_ixor C.1 rfl (g_at C i hd) (k H locs ls hP hD hS hl)
theorem v_ishl (C : gC X w K nL own d) (i : Nat) {x : Int32} {y : Int32} (hd : K[i]? = some (pc, .ishl, 1)) (k : gV X w kc ks Q nL (pc + 1) lv (.int (x <<< (y &&& 31)) :: st) μ) : gV X w kc ks Q nL pc lv (.int y :: .int x :: st) μ := fun H locs ls hP hD hS hl => lv_ishl C.1 rfl (g_at C i hd) (k H locs ls hP hD hS hl)
theorem v_ishr (C : gC X w K nL own d) (i : Nat) {x : Int32} {y : Int32} (hd : K[i]? = some (pc, .ishr, 1)) (k : gV X w kc ks Q nL (pc + 1) lv (.int (x >>> (y &&& 31)) :: st) μ) : gV X w kc ks Q nL pc lv (.int y :: .int x :: st) μ := fun H locs ls hP hD hS hl => lv_ishr C.1 rfl (g_at C i hd) (k H locs ls hP hD hS hl)
theorem v_iushr (C : gC X w K nL own d) (i : Nat) {x : Int32} {y : Int32} (hd : K[i]? = some (pc, .iushr, 1)) (k : gV X w kc ks Q nL (pc + 1) lv (.int ((x.toUInt32 >>> (y.toUInt32 &&& Int32.toUInt32 31)).toInt32) :: st) μ) : gV X w kc ks Q nL pc lv (.int y :: .int x :: st) μ := fun H locs ls hP hD hS hl => lv_iushr C.1 rfl (g_at C i hd) rfl (k H locs ls hP hD hS hl)
theorem v_ladd (C : gC X w K nL own d) (i : Nat) {x : Int64} {y : Int64} (hd : K[i]? = some (pc, .ladd, 1)) (k : gV X w kc ks Q nL (pc + 1) lv (.long (x + y) :: st) μ) : gV X w kc ks Q nL pc lv (.long y :: .long x :: st) μ := fun H locs ls hP hD hS hl => lv_ladd C.1 rfl (g_at C i hd) (k H locs ls hP hD hS hl)
theorem v_lsub (C : gC X w K nL own d) (i : Nat) {x : Int64} {y : Int64} (hd : K[i]? = some (pc, .lsub, 1)) (k : gV X w kc ks Q nL (pc + 1) lv (.long (x - y) :: st) μ) : gV X w kc ks Q nL pc lv (.long y :: .long x :: st) μ := fun H locs ls hP hD hS hl => lv_lsub C.1 rfl (g_at C i hd) (k H locs ls hP hD hS hl)
theorem v_land (C : gC X w K nL own d) (i : Nat) {x : Int64} {y : Int64} (hd : K[i]? = some (pc, .land, 1)) (k : gV X w kc ks Q nL (pc + 1) lv (.long (x &&& y) :: st) μ) : gV X w kc ks Q nL pc lv (.long y :: .long x :: st) μ := fun H locs ls hP hD hS hl => lv_land C.1 rfl (g_at C i hd) (k H locs ls hP hD hS hl)
theorem v_lor (C : gC X w K nL own d) (i : Nat) {x : Int64} {y : Int64} (hd : K[i]? = some (pc, .lor, 1)) (k : gV X w kc ks Q nL (pc + 1) lv (.long (x ||| y) :: st) μ) : gV X w kc ks Q nL pc lv (.long y :: .long x :: st) μ := fun H locs ls hP hD hS hl => lv_lor C.1 rfl (g_at C i hd) (k H locs ls hP hD hS hl)
theorem v_lxor (C : gC X w K nL own d) (i : Nat) {x : Int64} {y : Int64} (hd : K[i]? = some (pc, .lxor, 1)) (k : gV X w kc ks Q nL (pc + 1) lv (.long (x ^^^ y) :: st) μ) : gV X w kc ks Q nL pc lv (.long y :: .long x :: st) μ := fun H locs ls hP hD hS hl => lv_lxor C.1 rfl (g_at C i hd) (k H locs ls hP hD hS hl)
theorem v_lushr (C : gC X w K nL own d) (i : Nat) {x : Int64} {y : Int32} (hd : K[i]? = some (pc, .lushr, 1)) (k : gV X w kc ks Q nL (pc + 1) lv (.long ((x.toUInt64 >>> (y.toInt64.toUInt64 &&& Int64.toUInt64 63)).toInt64) :: st) μ) : gV X w kc ks Q nL pc lv (.int y :: .long x :: st) μ := fun H locs ls hP hD hS hl => lv_lushr C.1 rfl (g_at C i hd) rfl (k H locs ls hP hD hS hl)
theorem v_lshl (C : gC X w K nL own d) (i : Nat) {x : Int64} {y : Int32} (hd : K[i]? = some (pc, .lshl, 1)) (k : gV X w kc ks Q nL (pc + 1) lv (.long (x <<< (y.toInt64 &&& 63)) :: st) μ) : gV X w kc ks Q nL pc lv (.int y :: .long x :: st) μ := fun H locs ls hP hD hS hl => lv_lshl C.1 rfl (g_at C i hd) rfl (k H locs ls hP hD hS hl)
theorem v_lshr (C : gC X w K nL own d) (i : Nat) {x : Int64} {y : Int32} (hd : K[i]? = some (pc, .lshr, 1)) (k : gV X w kc ks Q nL (pc + 1) lv (.long (x >>> (y.toInt64 &&& 63)) :: st) μ) : gV X w kc ks Q nL pc lv (.int y :: .long x :: st) μ := fun H locs ls hP hD hS hl => lv_lshr C.1 rfl (g_at C i hd) rfl (k H locs ls hP hD hS hl)
theorem v_ineg (C : gC X w K nL own d) (i : Nat) {x : Int32} (hd : K[i]? = some (pc, .ineg, 1)) (k : gV X w kc ks Q nL (pc + 1) lv (.int (-x) :: st) μ) : gV X w kc ks Q nL pc lv (.int x :: st) μ := fun H locs ls hP hD hS hl => lv_ineg C.1 rfl (g_at C i hd) (k H locs ls hP hD hS hl)
theorem v_lneg (C : gC X w K nL own d) (i : Nat) {x : Int64} (hd : K[i]? = some (pc, .lneg, 1)) (k : gV X w kc ks Q nL (pc + 1) lv (.long (-x) :: st) μ) : gV X w kc ks Q nL pc lv (.long x :: st) μ := fun H locs ls hP hD hS hl => lv_lneg C.1 rfl (g_at C i hd) (k H locs ls hP hD hS hl)
theorem v_i2l (C : gC X w K nL own d) (i : Nat) {x : Int32} (hd : K[i]? = some (pc, .i2l, 1)) (k : gV X w kc ks Q nL (pc + 1) lv (.long (x.toInt64) :: st) μ) : gV X w kc ks Q nL pc lv (.int x :: st) μ := fun H locs ls hP hD hS hl => lv_i2l C.1 rfl (g_at C i hd) rfl (k H locs ls hP hD hS hl)
theorem v_l2i (C : gC X w K nL own d) (i : Nat) {x : Int64} (hd : K[i]? = some (pc, .l2i, 1)) (k : gV X w kc ks Q nL (pc + 1) lv (.int (x.toInt32) :: st) μ) : gV X w kc ks Q nL pc lv (.long x :: st) μ := fun H locs ls hP hD hS hl => lv_l2i C.1 rfl (g_at C i hd) rfl (k H locs ls hP hD hS hl)
theorem v_i2b (C : gC X w K nL own d) (i : Nat) {x : Int32} (hd : K[i]? = some (pc, .i2b, 1)) (k : gV X w kc ks Q nL (pc + 1) lv (.int (x.toInt8.toInt32) :: st) μ) : gV X w kc ks Q nL pc lv (.int x :: st) μ := fun H locs ls hP hD hS hl => lv_i2b C.1 rfl (g_at C i hd) rfl (k H locs ls hP hD hS hl)
theorem v_i2c (C : gC X w K nL own d) (i : Nat) {x : Int32} (hd : K[i]? = some (pc, .i2c, 1)) (k : gV X w kc ks Q nL (pc + 1) lv (.int ((x.toUInt32 % 65536).toInt32) :: st) μ) : gV X w kc ks Q nL pc lv (.int x :: st) μ := fun H locs ls hP hD hS hl => lv_i2c C.1 rfl (g_at C i hd) rfl (k H locs ls hP hD hS hl)
theorem v_iconst (C : gC X w K nL own d) (i : Nat) {n : Int} (v : Int32) (hd : K[i]? = some (pc, .iconst n, 1)) (hv : Int32.ofInt n = v) (k : gV X w kc ks Q nL (pc + 1) lv (.int v :: st) μ) : gV X w kc ks Q nL pc lv st μ := fun H locs ls hP hD hS hl => lv_iconst C.1 rfl (g_at C i hd) hv (k H locs ls hP hD hS hl)
theorem v_bipush (C : gC X w K nL own d) (i : Nat) {n : Int} (v : Int32) (hd : K[i]? = some (pc, .bipush n, 2)) (hv : (Int8.ofInt n).toInt32 = v) (k : gV X w kc ks Q nL (pc + 2) lv (.int v :: st) μ) : gV X w kc ks Q nL pc lv st μ := fun H locs ls hP hD hS hl => lv_bipush C.1 rfl (g_at C i hd) hv (k H locs ls hP hD hS hl)
theorem v_sipush (C : gC X w K nL own d) (i : Nat) {n : Int} (v : Int32) (hd : K[i]? = some (pc, .sipush n, 3)) (hv : (Int16.ofInt n).toInt32 = v) (k : gV X w kc ks Q nL (pc + 3) lv (.int v :: st) μ) : gV X w kc ks Q nL pc lv st μ := fun H locs ls hP hD hS hl => lv_sipush C.1 rfl (g_at C i hd) hv (k H locs ls hP hD hS hl)
theorem v_lconst (C : gC X w K nL own d) (i : Nat) {n : Fin 2} (v : Int64) (hd : K[i]? = some (pc, .lconst n, 1)) (hv : Int64.ofNat n = v) (k : gV X w kc ks Q nL (pc + 1) lv (.long v :: st) μ) : gV X w kc ks Q nL pc lv st μ := fun H locs ls hP hD hS hl => lv_lconst C.1 rfl (g_at C i hd) hv (k H locs ls hP hD hS hl)
theorem v_iload_n (C : gC X w K nL own d) (i j : Nat) {n : Fin 4} {b : Nat} {x : Int32} (hd : K[i]? = some (pc, .iload_n n, 1)) (hb : (n : Nat) = b) (hj : lv[j]? = some (b, .int x)) (k : gV X w kc ks Q nL (pc + 1) lv (.int x :: st) μ) : gV X w kc ks Q nL pc lv st μ := fun H locs ls hP hD hS hl => lv_iload_n C.1 rfl (g_at C i hd) hb (g_lv hl j hj) (k H locs ls hP hD hS hl)
theorem v_iload (C : gC X w K nL own d) (i j : Nat) {b : Nat} {x : Int32} (hd : K[i]? = some (pc, .iload b, 2)) (hj : lv[j]? = some (b, .int x)) (k : gV X w kc ks Q nL (pc + 2) lv (.int x :: st) μ) : gV X w kc ks Q nL pc lv st μ := fun H locs ls hP hD hS hl => lv_iload C.1 rfl (g_at C i hd) (g_lv hl j hj) (k H locs ls hP hD hS hl)
theorem v_lload_n (C : gC X w K nL own d) (i j : Nat) {n : Fin 4} {b : Nat} {x : Int64} (hd : K[i]? = some (pc, .lload_n n, 1)) (hb : (n : Nat) = b) (hj : lv[j]? = some (b, .long x)) (k : gV X w kc ks Q nL (pc + 1) lv (.long x :: st) μ) : gV X w kc ks Q nL pc lv st μ := fun H locs ls hP hD hS hl => lv_lload_n C.1 rfl (g_at C i hd) hb (g_lv hl j hj) (k H locs ls hP hD hS hl)
theorem v_lload (C : gC X w K nL own d) (i j : Nat) {b : Nat} {x : Int64} (hd : K[i]? = some (pc, .lload b, 2)) (hj : lv[j]? = some (b, .long x)) (k : gV X w kc ks Q nL (pc + 2) lv (.long x :: st) μ) : gV X w kc ks Q nL pc lv st μ := fun H locs ls hP hD hS hl => lv_lload C.1 rfl (g_at C i hd) (g_lv hl j hj) (k H locs ls hP hD hS hl)
theorem v_aload_n (C : gC X w K nL own d) (i j : Nat) {n : Fin 4} {b : Nat} {x : Nat} (hd : K[i]? = some (pc, .aload_n n, 1)) (hb : (n : Nat) = b) (hj : lv[j]? = some (b, .ref x)) (k : gV X w kc ks Q nL (pc + 1) lv (.ref x :: st) μ) : gV X w kc ks Q nL pc lv st μ := fun H locs ls hP hD hS hl => lv_aload_n C.1 rfl (g_at C i hd) hb (g_lv hl j hj) (k H locs ls hP hD hS hl)
theorem v_aload (C : gC X w K nL own d) (i j : Nat) {b : Nat} {x : Nat} (hd : K[i]? = some (pc, .aload b, 2)) (hj : lv[j]? = some (b, .ref x)) (k : gV X w kc ks Q nL (pc + 2) lv (.ref x :: st) μ) : gV X w kc ks Q nL pc lv st μ := fun H locs ls hP hD hS hl => lv_aload C.1 rfl (g_at C i hd) (g_lv hl j hj) (k H locs ls hP hD hS hl)
theorem v_istore_n (C : gC X w K nL own d) (i : Nat) {n : Fin 4} {b : Nat} {x : Int32} (hd : K[i]? = some (pc, .istore_n n, 1)) (hb : (n : Nat) = b) (hn : b < nL) (hl' : g_s1 lv b (.int x) = lv') (k : gV X w kc ks Q nL (pc + 1) lv' st μ) : gV X w kc ks Q nL pc lv (.int x :: st) μ := fun H locs ls hP hD hS hl => lv_istore_n C.1 rfl (g_at C i hd) hb hl hn (g_s1m lv b (.int x)) (fun ls' hl2 => k H locs ls' hP hD hS (by rw [← hl']; exact hl2))
theorem v_istore (C : gC X w K nL own d) (i : Nat) {b : Nat} {x : Int32} (hd : K[i]? = some (pc, .istore b, 2)) (hn : b < nL) (hl' : g_s1 lv b (.int x) = lv') (k : gV X w kc ks Q nL (pc + 2) lv' st μ) : gV X w kc ks Q nL pc lv (.int x :: st) μ := fun H locs ls hP hD hS hl => lv_istore C.1 rfl (g_at C i hd) hl hn (g_s1m lv b (.int x)) (fun ls' hl2 => k H locs ls' hP hD hS (by rw [← hl']; exact hl2))
theorem v_lstore_n (C : gC X w K nL own d) (i : Nat) {n : Fin 4} {b : Nat} {x : Int64} (hd : K[i]? = some (pc, .lstore_n n, 1)) (hb : (n : Nat) = b) (hn : b + 1 < nL) (hl' : g_s2 lv b (.long x) = lv') (k : gV X w kc ks Q nL (pc + 1) lv' st μ) : gV X w kc ks Q nL pc lv (.long x :: st) μ := fun H locs ls hP hD hS hl => lv_lstore_n C.1 rfl (g_at C i hd) hb hl hn (g_s2m lv b (.long x)) (fun ls' hl2 => k H locs ls' hP hD hS (by rw [← hl']; exact hl2))
theorem v_lstore (C : gC X w K nL own d) (i : Nat) {b : Nat} {x : Int64} (hd : K[i]? = some (pc, .lstore b, 2)) (hn : b + 1 < nL) (hl' : g_s2 lv b (.long x) = lv') (k : gV X w kc ks Q nL (pc + 2) lv' st μ) : gV X w kc ks Q nL pc lv (.long x :: st) μ := fun H locs ls hP hD hS hl => lv_lstore C.1 rfl (g_at C i hd) hl hn (g_s2m lv b (.long x)) (fun ls' hl2 => k H locs ls' hP hD hS (by rw [← hl']; exact hl2))
theorem v_astore_n (C : gC X w K nL own d) (i : Nat) {n : Fin 4} {b : Nat} {x : Nat} (hd : K[i]? = some (pc, .astore_n n, 1)) (hb : (n : Nat) = b) (hn : b < nL) (hl' : g_s1 lv b (.ref x) = lv') (k : gV X w kc ks Q nL (pc + 1) lv' st μ) : gV X w kc ks Q nL pc lv (.ref x :: st) μ := fun H locs ls hP hD hS hl => lv_astore_n C.1 rfl (g_at C i hd) hb hl hn (g_s1m lv b (.ref x)) (fun ls' hl2 => k H locs ls' hP hD hS (by rw [← hl']; exact hl2))
theorem v_astore (C : gC X w K nL own d) (i : Nat) {b : Nat} {x : Nat} (hd : K[i]? = some (pc, .astore b, 2)) (hn : b < nL) (hl' : g_s1 lv b (.ref x) = lv') (k : gV X w kc ks Q nL (pc + 2) lv' st μ) : gV X w kc ks Q nL pc lv (.ref x :: st) μ := fun H locs ls hP hD hS hl => lv_astore C.1 rfl (g_at C i hd) hl hn (g_s1m lv b (.ref x)) (fun ls' hl2 => k H locs ls' hP hD hS (by rw [← hl']; exact hl2))
theorem v_iinc (C : gC X w K nL own d) (i j : Nat) {b : Nat} {n : Int} {x : Int32} (v : Int32) (hd : K[i]? = some (pc, .iinc b n, 3)) (hj : lv[j]? = some (b, .int x)) (hv : x + Int32.ofInt n = v) (hn : b < nL) (hl' : g_s1 lv b (.int v) = lv') (k : gV X w kc ks Q nL (pc + 3) lv' st μ) : gV X w kc ks Q nL pc lv st μ := fun H locs ls hP hD hS hl => lv_iinc C.1 rfl (g_at C i hd) hl (k := j) (by rw [List.getElem?_map, hj]; rfl) hv hn (g_s1m lv b (.int v)) (fun ls' hl2 => k H locs ls' hP hD hS (by rw [← hl']; exact hl2))
theorem v_dup (C : gC X w K nL own d) (i : Nat) {v : Value} (hd : K[i]? = some (pc, .dup, 1)) (hv : v.category = 1) (k : gV X w kc ks Q nL (pc + 1) lv (v :: v :: st) μ) : gV X w kc ks Q nL pc lv (v :: st) μ := fun H locs ls hP hD hS hl => lv_dup C.1 rfl (g_at C i hd) ((tv_cat _ v).trans hv) (k H locs ls hP hD hS hl)
theorem v_dup2 (C : gC X w K nL own d) (i : Nat) {v u : Value} (hd : K[i]? = some (pc, .dup2, 1)) (hv : v.category = 1) (hu : u.category = 1) (k : gV X w kc ks Q nL (pc + 1) lv (v :: u :: v :: u :: st) μ) : gV X w kc ks Q nL pc lv (v :: u :: st) μ := fun H locs ls hP hD hS hl => lv_dup2_11 C.1 rfl (g_at C i hd) ((tv_cat _ v).trans hv) ((tv_cat _ u).trans hu) (k H locs ls hP hD hS hl)
theorem v_pop (C : gC X w K nL own d) (i : Nat) {v : Value} (hd : K[i]? = some (pc, .pop, 1)) (hv : v.category = 1) (k : gV X w kc ks Q nL (pc + 1) lv st μ) : gV X w kc ks Q nL pc lv (v :: st) μ := fun H locs ls hP hD hS hl => lv_pop C.1 rfl (g_at C i hd) ((tv_cat _ v).trans hv) (k H locs ls hP hD hS hl)
theorem v_if_eq (C : gC X w K nL own d) (i tgt : Nat) {x : Int32} {off : Int} (hd : K[i]? = some (pc, .ifCond .eq off, 3)) (ht : (pc : Int) + off = (tgt : Int)) (k1 : (x = 0) → gV X w kc ks Q nL tgt lv st μ) (k2 : ¬ (x = 0) → gV X w kc ks Q nL (pc + 3) lv st μ) : gV X w kc ks Q nL pc lv (.int x :: st) μ := fun H locs ls hP hD hS hl => lv_if_eq C.1 rfl (g_at C i hd) ht (fun q => k1 q H locs ls hP hD hS hl) (fun q => k2 q H locs ls hP hD hS hl)
theorem v_icmp_eq (C : gC X w K nL own d) (i tgt : Nat) {x y : Int32} {off : Int} (hd : K[i]? = some (pc, .if_icmp .eq off, 3)) (ht : (pc : Int) + off = (tgt : Int)) (k1 : (x = y) → gV X w kc ks Q nL tgt lv st μ) (k2 : ¬ (x = y) → gV X w kc ks Q nL (pc + 3) lv st μ) : gV X w kc ks Q nL pc lv (.int y :: .int x :: st) μ := fun H locs ls hP hD hS hl => lv_icmp_eq C.1 rfl (g_at C i hd) ht (fun q => k1 q H locs ls hP hD hS hl) (fun q => k2 q H locs ls hP hD hS hl)
theorem v_if_ne (C : gC X w K nL own d) (i tgt : Nat) {x : Int32} {off : Int} (hd : K[i]? = some (pc, .ifCond .ne off, 3)) (ht : (pc : Int) + off = (tgt : Int)) (k1 : ¬ (x = 0) → gV X w kc ks Q nL tgt lv st μ) (k2 : (x = 0) → gV X w kc ks Q nL (pc + 3) lv st μ) : gV X w kc ks Q nL pc lv (.int x :: st) μ := fun H locs ls hP hD hS hl => lv_if_ne C.1 rfl (g_at C i hd) ht (fun q => k1 q H locs ls hP hD hS hl) (fun q => k2 q H locs ls hP hD hS hl)
theorem v_icmp_ne (C : gC X w K nL own d) (i tgt : Nat) {x y : Int32} {off : Int} (hd : K[i]? = some (pc, .if_icmp .ne off, 3)) (ht : (pc : Int) + off = (tgt : Int)) (k1 : ¬ (x = y) → gV X w kc ks Q nL tgt lv st μ) (k2 : (x = y) → gV X w kc ks Q nL (pc + 3) lv st μ) : gV X w kc ks Q nL pc lv (.int y :: .int x :: st) μ := fun H locs ls hP hD hS hl => lv_icmp_ne C.1 rfl (g_at C i hd) ht (fun q => k1 q H locs ls hP hD hS hl) (fun q => k2 q H locs ls hP hD hS hl)
theorem v_if_lt (C : gC X w K nL own d) (i tgt : Nat) {x : Int32} {off : Int} (hd : K[i]? = some (pc, .ifCond .lt off, 3)) (ht : (pc : Int) + off = (tgt : Int)) (k1 : (x < 0) → gV X w kc ks Q nL tgt lv st μ) (k2 : ¬ (x < 0) → gV X w kc ks Q nL (pc + 3) lv st μ) : gV X w kc ks Q nL pc lv (.int x :: st) μ := fun H locs ls hP hD hS hl => lv_if_lt C.1 rfl (g_at C i hd) ht (fun q => k1 q H locs ls hP hD hS hl) (fun q => k2 q H locs ls hP hD hS hl)
theorem v_icmp_lt (C : gC X w K nL own d) (i tgt : Nat) {x y : Int32} {off : Int} (hd : K[i]? = some (pc, .if_icmp .lt off, 3)) (ht : (pc : Int) + off = (tgt : Int)) (k1 : (x < y) → gV X w kc ks Q nL tgt lv st μ) (k2 : ¬ (x < y) → gV X w kc ks Q nL (pc + 3) lv st μ) : gV X w kc ks Q nL pc lv (.int y :: .int x :: st) μ := fun H locs ls hP hD hS hl => lv_icmp_lt C.1 rfl (g_at C i hd) ht (fun q => k1 q H locs ls hP hD hS hl) (fun q => k2 q H locs ls hP hD hS hl)
theorem v_if_ge (C : gC X w K nL own d) (i tgt : Nat) {x : Int32} {off : Int} (hd : K[i]? = some (pc, .ifCond .ge off, 3)) (ht : (pc : Int) + off = (tgt : Int)) (k1 : (0 ≤ x) → gV X w kc ks Q nL tgt lv st μ) (k2 : ¬ (0 ≤ x) → gV X w kc ks Q nL (pc + 3) lv st μ) : gV X w kc ks Q nL pc lv (.int x :: st) μ := fun H locs ls hP hD hS hl => lv_if_ge C.1 rfl (g_at C i hd) ht (fun q => k1 q H locs ls hP hD hS hl) (fun q => k2 q H locs ls hP hD hS hl)
theorem v_icmp_ge (C : gC X w K nL own d) (i tgt : Nat) {x y : Int32} {off : Int} (hd : K[i]? = some (pc, .if_icmp .ge off, 3)) (ht : (pc : Int) + off = (tgt : Int)) (k1 : (y ≤ x) → gV X w kc ks Q nL tgt lv st μ) (k2 : ¬ (y ≤ x) → gV X w kc ks Q nL (pc + 3) lv st μ) : gV X w kc ks Q nL pc lv (.int y :: .int x :: st) μ := fun H locs ls hP hD hS hl => lv_icmp_ge C.1 rfl (g_at C i hd) ht (fun q => k1 q H locs ls hP hD hS hl) (fun q => k2 q H locs ls hP hD hS hl)
theorem v_if_gt (C : gC X w K nL own d) (i tgt : Nat) {x : Int32} {off : Int} (hd : K[i]? = some (pc, .ifCond .gt off, 3)) (ht : (pc : Int) + off = (tgt : Int)) (k1 : (0 < x) → gV X w kc ks Q nL tgt lv st μ) (k2 : ¬ (0 < x) → gV X w kc ks Q nL (pc + 3) lv st μ) : gV X w kc ks Q nL pc lv (.int x :: st) μ := fun H locs ls hP hD hS hl => lv_if_gt C.1 rfl (g_at C i hd) ht (fun q => k1 q H locs ls hP hD hS hl) (fun q => k2 q H locs ls hP hD hS hl)
theorem v_icmp_gt (C : gC X w K nL own d) (i tgt : Nat) {x y : Int32} {off : Int} (hd : K[i]? = some (pc, .if_icmp .gt off, 3)) (ht : (pc : Int) + off = (tgt : Int)) (k1 : (y < x) → gV X w kc ks Q nL tgt lv st μ) (k2 : ¬ (y < x) → gV X w kc ks Q nL (pc + 3) lv st μ) : gV X w kc ks Q nL pc lv (.int y :: .int x :: st) μ := fun H locs ls hP hD hS hl => lv_icmp_gt C.1 rfl (g_at C i hd) ht (fun q => k1 q H locs ls hP hD hS hl) (fun q => k2 q H locs ls hP hD hS hl)
theorem v_if_le (C : gC X w K nL own d) (i tgt : Nat) {x : Int32} {off : Int} (hd : K[i]? = some (pc, .ifCond .le off, 3)) (ht : (pc : Int) + off = (tgt : Int)) (k1 : (x ≤ 0) → gV X w kc ks Q nL tgt lv st μ) (k2 : ¬ (x ≤ 0) → gV X w kc ks Q nL (pc + 3) lv st μ) : gV X w kc ks Q nL pc lv (.int x :: st) μ := fun H locs ls hP hD hS hl => lv_if_le C.1 rfl (g_at C i hd) ht (fun q => k1 q H locs ls hP hD hS hl) (fun q => k2 q H locs ls hP hD hS hl)
theorem v_icmp_le (C : gC X w K nL own d) (i tgt : Nat) {x y : Int32} {off : Int} (hd : K[i]? = some (pc, .if_icmp .le off, 3)) (ht : (pc : Int) + off = (tgt : Int)) (k1 : (x ≤ y) → gV X w kc ks Q nL tgt lv st μ) (k2 : ¬ (x ≤ y) → gV X w kc ks Q nL (pc + 3) lv st μ) : gV X w kc ks Q nL pc lv (.int y :: .int x :: st) μ := fun H locs ls hP hD hS hl => lv_icmp_le C.1 rfl (g_at C i hd) ht (fun q => k1 q H locs ls hP hD hS hl) (fun q => k2 q H locs ls hP hD hS hl)
theorem v_goto (C : gC X w K nL own d) (i tgt : Nat) {off : Int} (hd : K[i]? = some (pc, .goto off, 3)) (ht : (pc : Int) + off = (tgt : Int)) (k : gV X w kc ks Q nL tgt lv st μ) : gV X w kc ks Q nL pc lv st μ := fun H locs ls hP hD hS hl => lv_goto C.1 rfl (g_at C i hd) ht (k H locs ls hP hD hS hl)
theorem g_cmp0 {x y : Int64} : lg_cmp x y = 0 ↔ x = y := by
  unfold lg_cmp
  by_cases h1 : y < x
  · rw [if_pos h1]
    refine ⟨fun h => absurd h (by decide), fun h => ?_⟩
    rw [h] at h1
    exact absurd h1 (Int64.lt_irrefl)
  · rw [if_neg h1]
    by_cases h2 : x = y
    · rw [if_pos h2]
      exact ⟨fun _ => h2, fun _ => rfl⟩
    · rw [if_neg h2]
      exact ⟨fun h => absurd h (by decide), fun h => absurd h h2⟩
theorem v_lcmp (C : gC X w K nL own d) (i : Nat) {x y : Int64} (hd : K[i]? = some (pc, .lcmp, 1)) (k : gV X w kc ks Q nL (pc + 1) lv (.int (lg_cmp x y) :: st) μ) : gV X w kc ks Q nL pc lv (.long y :: .long x :: st) μ := fun H locs ls hP hD hS hl => W.lcmp C.1 rfl (g_at C i hd) (k H locs ls hP hD hS hl)
theorem v_lif_eq (C : gC X w K nL own d) (i tgt : Nat) {x y : Int64} {off : Int} (hd : K[i]? = some (pc, .ifCond .eq off, 3)) (ht : (pc : Int) + off = (tgt : Int)) (k1 : (x = y) → gV X w kc ks Q nL tgt lv st μ) (k2 : ¬ (x = y) → gV X w kc ks Q nL (pc + 3) lv st μ) : gV X w kc ks Q nL pc lv (.int (lg_cmp x y) :: st) μ := v_if_eq C i tgt hd ht (fun q => k1 (g_cmp0.mp q)) (fun q => k2 (fun z => q (g_cmp0.mpr z)))
theorem v_lif_ne (C : gC X w K nL own d) (i tgt : Nat) {x y : Int64} {off : Int} (hd : K[i]? = some (pc, .ifCond .ne off, 3)) (ht : (pc : Int) + off = (tgt : Int)) (k1 : ¬ (x = y) → gV X w kc ks Q nL tgt lv st μ) (k2 : (x = y) → gV X w kc ks Q nL (pc + 3) lv st μ) : gV X w kc ks Q nL pc lv (.int (lg_cmp x y) :: st) μ := v_if_ne C i tgt hd ht (fun q => k1 (fun z => q (g_cmp0.mpr z))) (fun q => k2 (g_cmp0.mp q))
theorem v_lookup (C : gC X w K nL own d) (i tgt : Nat) {dflt off : Int} {ps : Array (Int × Int)} {len : Nat} {x : Int32} (hd : K[i]? = some (pc, .lookupswitch dflt ps, len)) (hp : (ps.toList.zip (ps.toList.drop 1)).all (fun (a, next) => a.1 < next.1) = true) (ho : Op.lookupswitch.offset ps.toList dflt x.toInt = off) (ht : (pc : Int) + off = (tgt : Int)) (k : gV X w kc ks Q nL tgt lv st μ) : gV X w kc ks Q nL pc lv (.int x :: st) μ := fun H locs ls hP hD hS hl => lv_lookup C.1 rfl (g_at C i hd) hp ho ht (k H locs ls hP hD hS hl)
theorem v_tableOut (C : gC X w K nL own d) (i tgt : Nat) {dflt lo hi : Int} {offs : Array Int} {len : Nat} {x : Int32} (hd : K[i]? = some (pc, .tableswitch dflt lo hi offs, len)) (h : x.toInt < lo ∨ hi < x.toInt) (ht : (pc : Int) + dflt = (tgt : Int)) (k : gV X w kc ks Q nL tgt lv st μ) : gV X w kc ks Q nL pc lv (.int x :: st) μ := fun H locs ls hP hD hS hl => lv_tableOut C.1 rfl (g_at C i hd) h ht (k H locs ls hP hD hS hl)
theorem v_tableIn (C : gC X w K nL own d) (i tgt : Nat) {dflt lo hi off : Int} {offs : Array Int} {len : Nat} {x : Int32} (hd : K[i]? = some (pc, .tableswitch dflt lo hi offs, len)) (h1 : ¬ x.toInt < lo) (h2 : ¬ hi < x.toInt) (ho : offs[(x.toInt - lo).toNat]? = some off) (ht : (pc : Int) + off = (tgt : Int)) (k : gV X w kc ks Q nL tgt lv st μ) : gV X w kc ks Q nL pc lv (.int x :: st) μ := fun H locs ls hP hD hS hl => lv_tableIn C.1 rfl (g_at C i hd) h1 h2 ho ht (k H locs ls hP hD hS hl)
theorem v_ldc (C : gC X w K nL own d) (i : Nat) {idx : Nat} {v : Int32} (hd : K[i]? = some (pc, .ldc idx, 2)) (hc : Cond.constant own idx v ∈ gTb) (k : gV X w kc ks Q nL (pc + 2) lv (.int v :: st) μ) : gV X w kc ks Q nL pc lv st μ := fun H locs ls hP hD hS hl => lv_ldc C.1 rfl C.2.2.2.1 (C.2.2.2.2.1 _ hc) (g_at C i hd) (k H locs ls hP hD hS hl)
theorem v_ldc2 (C : gC X w K nL own d) (i : Nat) {idx : Nat} {v : Int64} (hd : K[i]? = some (pc, .ldc2_w idx, 3)) (hc : Cond.constantLong own idx v ∈ gTb) (k : gV X w kc ks Q nL (pc + 3) lv (.long v :: st) μ) : gV X w kc ks Q nL pc lv st μ := fun H locs ls hP hD hS hl => lv_ldc2 C.1 rfl C.2.2.2.1 (C.2.2.2.2.1 _ hc) (g_at C i hd) (k H locs ls hP hD hS hl)
end GV
end
section
/-! FIELDS, ARRAYS, CALLS, RETURNS over the flat memory -/
def gCls (ci : Nat) (Cn : String) (T : u_T) (N : Nat) : Prop := vwCl[ci]? = some (Cn, T, N) ∧ N = gN ci ∧ (∀ x ∈ u_ws Cn T N, x ∈ gTb) ∧ (∀ k, k < N → parseFieldDescriptor (T k).2.2.1 = some (gT ci k)) ∧ (∀ a, a < N → ∀ b, b < N → a ≠ b → (T a).2.1 ≠ (T b).2.1)
/-- entry idx of own's pool is place j of class ci -/
def gF (own : String) (idx ci j : Nat) : Prop := ∃ (Cn : String) (T : u_T) (N : Nat), gCls ci Cn T N ∧ j < N ∧ (Cond.fieldLink own idx (T j).1 (T j).2.1 (T j).2.2.1 ∈ gTb ∨ ∃ host, Cond.fieldLinkNest own idx (T j).1 (T j).2.1 (T j).2.2.1 host ∈ gNb)
/-- the same, and the place isn't final -/
def gFw (own : String) (idx ci j : Nat) : Prop := ∃ (Cn : String) (T : u_T) (N : Nat), gCls ci Cn T N ∧ j < N ∧ (T j).2.2.2 = false ∧ (Cond.fieldLink own idx (T j).1 (T j).2.1 (T j).2.2.1 ∈ gTb ∨ ∃ host, Cond.fieldLinkNest own idx (T j).1 (T j).2.1 (T j).2.2.1 host ∈ gNb)
theorem gFw.get {own : String} {idx ci j : Nat} (h : gFw own idx ci j) : gF own idx ci j := by
  obtain ⟨Cn, T, N, h1, h2, -, h3⟩ := h
  exact ⟨Cn, T, N, h1, h2, h3⟩
theorem g_nest {w : Cond} (h : w ∈ gNb) : w.onTables = true := by
  have h1 := (List.mem_filter.mp h).2
  cases w <;> first | rfl | (simp [g_isN] at h1)
def gIt : FieldType → Bool
  | .int => true
  | .boolean => true
  | .byte => true
  | _ => false
def gRt : FieldType → Bool
  | .object _ => true
  | .array _ => true
  | _ => false
theorem g_fvI {ad : Nat → Nat} {μ : gM} {k j : Nat} {ty : FieldType} (h : gIt ty = true) : g_fv ad μ k j ty = .int (μ.1 k j) := by cases ty <;> first | rfl | (simp [gIt] at h)
theorem g_fvR {ad : Nat → Nat} {μ : gM} {k j t : Nat} {ty : FieldType} (h : gRt ty = true) (hr : μ.2.2 k j = some t) : g_fv ad μ k j ty = .ref (ad t) := by cases ty <;> first | (simp [g_fv, hr, va_rf]; done) | (simp [gRt] at h)
section GH
variable {X : gX} {w : gW} {K : gK} {kc ks nL pc d : Nat} {own : String} {Q : State → Prop} {lv lv' : List (Nat × Value)} {st : List Value} {μ : gM}
theorem v_getV (C : gC X w K nL own d) (i : Nat) {idx ci j k : Nat} (hd : K[i]? = some (pc, .getfield idx, 3)) (F : gF own idx ci j) (hs : w.2.2.2.2.1[k]? = some (.inl ci)) {v : Value} (hv : g_fv w.2.2.1 μ k j (gT ci j) = tv w.2.2.1 v) (kk : gV X w kc ks Q nL (pc + 3) lv (v :: st) μ) : gV X w kc ks Q nL pc lv (.ref k :: st) μ := by
  intro H locs ls hP hD hS hl
  obtain ⟨Cn, T, N, ⟨c1, c2, c3, c4, c5⟩, hj, hk⟩ := F
  subst c2
  have hv' : ((List.range (gN ci)).map (fun j => g_fv w.2.2.1 μ k j (gT ci j)))[j]? = some (tv w.2.2.1 v) := by
    simp [hj, hv]
  rcases hk with hk | ⟨host, hk⟩
  · exact va_get C.1 rfl C.2.2.2.2.1 c3 C.2.2.2.1 C.2.2.2.2.2.2.1 hP k (g_wl_at hs) c1 j hj (C.2.2.2.2.1 _ hk) (fun _ h => h) hv' (g_at C i hd) (kk H locs ls hP hD hS hl)
  · exact va_getN C.1 rfl C.2.2.2.2.1 c3 C.2.2.2.1 C.2.2.2.2.2.2.1 hP k (g_wl_at hs) c1 j hj ((C.2.2.2.2.2.1 _ hk).use (g_nest hk)) (fun _ h => h) hv' (g_at C i hd) (kk H locs ls hP hD hS hl)
theorem v_getI (C : gC X w K nL own d) (i : Nat) {idx ci j k : Nat} (hd : K[i]? = some (pc, .getfield idx, 3)) (F : gF own idx ci j) (hs : w.2.2.2.2.1[k]? = some (.inl ci)) (ht : gIt (gT ci j) = true) (kk : gV X w kc ks Q nL (pc + 3) lv (.int (μ.1 k j) :: st) μ) : gV X w kc ks Q nL pc lv (.ref k :: st) μ := v_getV C i hd F hs (v := .int (μ.1 k j)) (g_fvI ht) kk
theorem v_getL (C : gC X w K nL own d) (i : Nat) {idx ci j k : Nat} (hd : K[i]? = some (pc, .getfield idx, 3)) (F : gF own idx ci j) (hs : w.2.2.2.2.1[k]? = some (.inl ci)) (ht : gT ci j = .long) (kk : gV X w kc ks Q nL (pc + 3) lv (.long (μ.2.1 k j) :: st) μ) : gV X w kc ks Q nL pc lv (.ref k :: st) μ := v_getV C i hd F hs (v := .long (μ.2.1 k j)) (by rw [ht]; rfl) kk
theorem v_getR (C : gC X w K nL own d) (i : Nat) {idx ci j k t : Nat} (hd : K[i]? = some (pc, .getfield idx, 3)) (F : gF own idx ci j) (hs : w.2.2.2.2.1[k]? = some (.inl ci)) (ht : gRt (gT ci j) = true) (hr : μ.2.2 k j = some t) (kk : gV X w kc ks Q nL (pc + 3) lv (.ref t :: st) μ) : gV X w kc ks Q nL pc lv (.ref k :: st) μ := v_getV C i hd F hs (v := .ref t) (g_fvR ht hr) kk
theorem v_putV (C : gC X w K nL own d) (i : Nat) {idx ci j k : Nat} {μ' : gM} {v : Value} (hd : K[i]? = some (pc, .putfield idx, 3)) (F : gFw own idx ci j) (hs : w.2.2.2.2.1[k]? = some (.inl ci)) (hn : narrow (gT ci j) (tv w.2.2.1 v) = tv w.2.2.1 v) (hf : fits (gT ci j) (tv w.2.2.1 v) = true)
    (he : ∀ N, N = gN ci → j < N → ((List.range (gN ci)).map (fun j => g_fv w.2.2.1 μ k j (gT ci j))).set j (tv w.2.2.1 v) = (List.range (gN ci)).map (fun j => g_fv w.2.2.1 μ' k j (gT ci j))) (ho : ∀ j, j ≠ k → ∀ y, g_ce w.2.2.1 w.2.1 μ' j y = g_ce w.2.2.1 w.2.1 μ j y)
    (kk : gV X w kc ks Q nL (pc + 3) lv st μ') : gV X w kc ks Q nL pc lv (v :: .ref k :: st) μ := by
  intro H locs ls hP hD hS hl
  obtain ⟨Cn, T, N, ⟨c1, c2, c3, c4, c5⟩, hj, hfin, hk⟩ := F
  have he' := he N c2 hj
  subst c2
  have hset : (gwl w μ).set k (w.2.2.1 k, .inr (ci, ((List.range (gN ci)).map (fun j => g_fv w.2.2.1 μ k j (gT ci j))).set j (tv w.2.2.1 v))) = gwl w μ' := by
    rw [he']
    exact g_wl_set hs rfl ho
  have hlen : j < ((List.range (gN ci)).map (fun j => g_fv w.2.2.1 μ k j (gT ci j))).length := by simpa using hj
  rcases hk with hk | ⟨host, hk⟩
  · refine va_put C.1 rfl C.2.2.2.2.1 c3 (gT ci) c4 c5 C.2.2.2.1 C.2.2.2.2.2.2.1 hP hD hS k (g_wl_at hs) c1 j hj (C.2.2.2.2.1 _ hk) (fun _ h => h) hfin (c4 j hj) hn hf hlen (g_at C i hd) (fun H1 locs1 hP1 hD1 hS1 => ?_)
    exact kk H1 locs1 ls (hset ▸ hP1) (hset ▸ hD1) hS1 hl
  · refine va_putN C.1 rfl C.2.2.2.2.1 c3 (gT ci) c4 c5 C.2.2.2.1 C.2.2.2.2.2.2.1 hP hD hS k (g_wl_at hs) c1 j hj ((C.2.2.2.2.2.1 _ hk).use (g_nest hk)) (fun _ h => h) hfin (c4 j hj) hn hf hlen (g_at C i hd) (fun H1 locs1 hP1 hD1 hS1 => ?_)
    exact kk H1 locs1 ls (hset ▸ hP1) (hset ▸ hD1) hS1 hl
theorem v_putI (C : gC X w K nL own d) (i : Nat) {idx ci j k : Nat} {v : Int32} (hd : K[i]? = some (pc, .putfield idx, 3)) (F : gFw own idx ci j) (hs : w.2.2.2.2.1[k]? = some (.inl ci)) (ht : gT ci j = .int) (kk : gV X w kc ks Q nL (pc + 3) lv st (gsI μ k j v)) : gV X w kc ks Q nL pc lv (.int v :: .ref k :: st) μ :=
  v_putV C i hd F hs (v := .int v) (by rw [ht]; rfl) (by rw [ht]; rfl) (fun N hN hj => g_fsI (hN ▸ hj) (by rw [ht]; simp [g_fv, gsI])) g_oI kk
theorem v_putZ (C : gC X w K nL own d) (i : Nat) {idx ci j k : Nat} {v : Int32} (hd : K[i]? = some (pc, .putfield idx, 3)) (F : gFw own idx ci j) (hs : w.2.2.2.2.1[k]? = some (.inl ci)) (ht : gT ci j = .boolean) (h01 : v = 0 ∨ v = 1) (kk : gV X w kc ks Q nL (pc + 3) lv st (gsI μ k j v)) : gV X w kc ks Q nL pc lv (.int v :: .ref k :: st) μ :=
  v_putV C i hd F hs (v := .int v) (by rw [ht]; rcases h01 with rfl | rfl; exact (by decide +kernel : narrow FieldType.boolean (Value.int 0) = Value.int 0); exact (by decide +kernel : narrow FieldType.boolean (Value.int 1) = Value.int 1)) (by rw [ht]; rcases h01 with rfl | rfl; exact (by decide +kernel : fits FieldType.boolean (Value.int 0) = true); exact (by decide +kernel : fits FieldType.boolean (Value.int 1) = true)) (fun N hN hj => g_fsI (hN ▸ hj) (by rw [ht]; simp [g_fv, gsI])) g_oI kk
theorem v_putL (C : gC X w K nL own d) (i : Nat) {idx ci j k : Nat} {v : Int64} (hd : K[i]? = some (pc, .putfield idx, 3)) (F : gFw own idx ci j) (hs : w.2.2.2.2.1[k]? = some (.inl ci)) (ht : gT ci j = .long) (kk : gV X w kc ks Q nL (pc + 3) lv st (gsL μ k j v)) : gV X w kc ks Q nL pc lv (.long v :: .ref k :: st) μ :=
  v_putV C i hd F hs (v := .long v) (by rw [ht]; rfl) (by rw [ht]; rfl) (fun N hN hj => g_fsL (hN ▸ hj) (by rw [ht]; simp [g_fv, gsL])) g_oL kk
theorem v_putR (C : gC X w K nL own d) (i : Nat) {idx ci j k t : Nat} (hd : K[i]? = some (pc, .putfield idx, 3)) (F : gFw own idx ci j) (hs : w.2.2.2.2.1[k]? = some (.inl ci)) (ht : gRt (gT ci j) = true) (kk : gV X w kc ks Q nL (pc + 3) lv st (gsR μ k j (some t))) : gV X w kc ks Q nL pc lv (.ref t :: .ref k :: st) μ := by
  have h1 : narrow (gT ci j) (.ref (w.2.2.1 t)) = .ref (w.2.2.1 t) := by revert ht; cases gT ci j <;> intro ht <;> first | rfl | (simp [gRt] at ht)
  have h2 : fits (gT ci j) (.ref (w.2.2.1 t)) = true := by revert ht; cases gT ci j <;> intro ht <;> first | rfl | (simp [gRt] at ht)
  exact v_putV C i hd F hs (v := .ref t) h1 h2 (fun N hN hj => g_fsR (hN ▸ hj) (g_fvR ht (by simp [gsR]))) g_oR kk
/-! arrays -/
theorem g_tyI (cA : FieldType → ClassId) : (g_tys cA)[0]? = some (cA .int, .int) := rfl
theorem v_iald (C : gC X w K nL own d) (i : Nat) {k n : Nat} {x : Int32} (hd : K[i]? = some (pc, .iaload, 1)) (hs : w.2.2.2.2.1[k]? = some (.inr (.int, n))) (hin : vp_in x n) (kk : gV X w kc ks Q nL (pc + 1) lv (.int (μ.1 k x.toNatClampNeg) :: st) μ) : gV X w kc ks Q nL pc lv (.int x :: .ref k :: st) μ := fun H locs ls hP hD hS hl =>
  va_iald C.1 rfl C.2.2.2.2.2.2.1 hP k 0 (g_wl_at hs) rfl hin (g_at C i hd) (kk H locs ls hP hD hS hl)
theorem v_bald (C : gC X w K nL own d) (i : Nat) {k n : Nat} {x : Int32} (hd : K[i]? = some (pc, .baload, 1)) (hs : w.2.2.2.2.1[k]? = some (.inr (.byte, n))) (hin : vp_in x n) (kk : gV X w kc ks Q nL (pc + 1) lv (.int (μ.1 k x.toNatClampNeg) :: st) μ) : gV X w kc ks Q nL pc lv (.int x :: .ref k :: st) μ := fun H locs ls hP hD hS hl =>
  va_bald C.1 rfl C.2.2.2.2.2.2.1 hP k 2 (g_wl_at hs) rfl hin (g_at C i hd) (kk H locs ls hP hD hS hl)
theorem v_zald (C : gC X w K nL own d) (i : Nat) {k n : Nat} {x : Int32} (hd : K[i]? = some (pc, .baload, 1)) (hs : w.2.2.2.2.1[k]? = some (.inr (.boolean, n))) (hin : vp_in x n) (kk : gV X w kc ks Q nL (pc + 1) lv (.int (μ.1 k x.toNatClampNeg) :: st) μ) : gV X w kc ks Q nL pc lv (.int x :: .ref k :: st) μ := fun H locs ls hP hD hS hl =>
  va_zald C.1 rfl C.2.2.2.2.2.2.1 hP k 3 (g_wl_at hs) rfl hin (g_at C i hd) (kk H locs ls hP hD hS hl)
theorem v_lald (C : gC X w K nL own d) (i : Nat) {k n : Nat} {x : Int32} (hd : K[i]? = some (pc, .laload, 1)) (hs : w.2.2.2.2.1[k]? = some (.inr (.long, n))) (hin : vp_in x n) (kk : gV X w kc ks Q nL (pc + 1) lv (.long (μ.2.1 k x.toNatClampNeg) :: st) μ) : gV X w kc ks Q nL pc lv (.int x :: .ref k :: st) μ := fun H locs ls hP hD hS hl =>
  va_lald C.1 rfl C.2.2.2.2.2.2.1 hP k 1 (g_wl_at hs) rfl hin (g_at C i hd) (kk H locs ls hP hD hS hl)
theorem v_alen (C : gC X w K nL own d) (i : Nat) {k n : Nat} {ty : FieldType} (v : Int32) (hd : K[i]? = some (pc, .arraylength, 1)) (hs : w.2.2.2.2.1[k]? = some (.inr (ty, n))) (ht : ty = .int ∨ ty = .byte) (hv : Int32.ofNat n = v) (kk : gV X w kc ks Q nL (pc + 1) lv (.int v :: st) μ) : gV X w kc ks Q nL pc lv (.ref k :: st) μ := fun H locs ls hP hD hS hl => by
  rcases ht with rfl | rfl
  · exact va_alen C.1 rfl C.2.2.2.2.2.2.1 hP k 0 (g_wl_at hs) rfl hv (g_at C i hd) (kk H locs ls hP hD hS hl)
  · exact va_alen C.1 rfl C.2.2.2.2.2.2.1 hP k 2 (g_wl_at hs) rfl hv (g_at C i hd) (kk H locs ls hP hD hS hl)
theorem g_upI {μ : gM} {k j : Nat} {v : Int32} : (gsI μ k j v).1 k = upd (μ.1 k) j v := by
  funext b
  simp [gsI, upd]
theorem g_upL {μ : gM} {k j : Nat} {v : Int64} : (gsL μ k j v).2.1 k = vp_updL (μ.2.1 k) j v := by
  funext b
  simp [gsL, vp_updL]
theorem v_iast (C : gC X w K nL own d) (i : Nat) {k n : Nat} {x v : Int32} (hd : K[i]? = some (pc, .iastore, 1)) (hs : w.2.2.2.2.1[k]? = some (.inr (.int, n))) (hin : vp_in x n) (kk : gV X w kc ks Q nL (pc + 1) lv st (gsI μ k x.toNatClampNeg v)) : gV X w kc ks Q nL pc lv (.int v :: .int x :: .ref k :: st) μ := fun H locs ls hP hD hS hl => by
  have hset : (gwl w μ).set k (w.2.2.1 k, .inl (w.2.1 .int, n, .inl (upd (μ.1 k) x.toNatClampNeg v))) = gwl w (gsI μ k x.toNatClampNeg v) := g_wl_set hs (by simp only [g_ce, g_ar, g_upI]) g_oI
  refine va_iast C.1 rfl C.2.2.2.2.2.2.1 hP hD hS k 0 (g_wl_at hs) rfl hin (g_at C i hd) (fun H1 locs1 hP1 hD1 hS1 => ?_)
  exact kk H1 locs1 ls (hset ▸ hP1) (hset ▸ hD1) hS1 hl
theorem v_bast (C : gC X w K nL own d) (i : Nat) {k n : Nat} {x v : Int32} (hd : K[i]? = some (pc, .bastore, 1)) (hs : w.2.2.2.2.1[k]? = some (.inr (.byte, n))) (hin : vp_in x n) (kk : gV X w kc ks Q nL (pc + 1) lv st (gsI μ k x.toNatClampNeg (vp_nar .byte v))) : gV X w kc ks Q nL pc lv (.int v :: .int x :: .ref k :: st) μ := fun H locs ls hP hD hS hl => by
  have hset : (gwl w μ).set k (w.2.2.1 k, .inl (w.2.1 .byte, n, .inl (upd (μ.1 k) x.toNatClampNeg (vp_nar .byte v)))) = gwl w (gsI μ k x.toNatClampNeg (vp_nar .byte v)) := g_wl_set hs (by simp only [g_ce, g_ar, g_upI]) g_oI
  refine va_bast C.1 rfl C.2.2.2.2.2.2.1 hP hD hS k 2 (g_wl_at hs) rfl hin (g_at C i hd) (fun H1 locs1 hP1 hD1 hS1 => ?_)
  exact kk H1 locs1 ls (hset ▸ hP1) (hset ▸ hD1) hS1 hl
theorem v_zast (C : gC X w K nL own d) (i : Nat) {k n : Nat} {x v : Int32} (hd : K[i]? = some (pc, .bastore, 1)) (hs : w.2.2.2.2.1[k]? = some (.inr (.boolean, n))) (hin : vp_in x n) (kk : gV X w kc ks Q nL (pc + 1) lv st (gsI μ k x.toNatClampNeg (vp_nar .boolean v))) : gV X w kc ks Q nL pc lv (.int v :: .int x :: .ref k :: st) μ := fun H locs ls hP hD hS hl => by
  have hset : (gwl w μ).set k (w.2.2.1 k, .inl (w.2.1 .boolean, n, .inl (upd (μ.1 k) x.toNatClampNeg (vp_nar .boolean v)))) = gwl w (gsI μ k x.toNatClampNeg (vp_nar .boolean v)) := g_wl_set hs (by simp only [g_ce, g_ar, g_upI]) g_oI
  refine va_zast C.1 rfl C.2.2.2.2.2.2.1 hP hD hS k 3 (g_wl_at hs) rfl hin (g_at C i hd) (fun H1 locs1 hP1 hD1 hS1 => ?_)
  exact kk H1 locs1 ls (hset ▸ hP1) (hset ▸ hD1) hS1 hl
theorem v_last (C : gC X w K nL own d) (i : Nat) {k n : Nat} {x : Int32} {v : Int64} (hd : K[i]? = some (pc, .lastore, 1)) (hs : w.2.2.2.2.1[k]? = some (.inr (.long, n))) (hin : vp_in x n) (kk : gV X w kc ks Q nL (pc + 1) lv st (gsL μ k x.toNatClampNeg v)) : gV X w kc ks Q nL pc lv (.long v :: .int x :: .ref k :: st) μ := fun H locs ls hP hD hS hl => by
  have hset : (gwl w μ).set k (w.2.2.1 k, .inl (w.2.1 .long, n, .inr (.inl (vp_updL (μ.2.1 k) x.toNatClampNeg v)))) = gwl w (gsL μ k x.toNatClampNeg v) := g_wl_set hs (by simp only [g_ce, g_ar, g_upL]) g_oL
  refine va_last C.1 rfl C.2.2.2.2.2.2.1 hP hD hS k 1 (g_wl_at hs) rfl hin (g_at C i hd) (fun H1 locs1 hP1 hD1 hS1 => ?_)
  exact kk H1 locs1 ls (hset ▸ hP1) (hset ▸ hD1) hS1 hl
end GH
end
section
/-! CONTRACTS: a method called on the arguments av over the memory μ returns r, and the memory is μ' then; it makes nothing -/
def g_rm (d : Nat) : Room := { frames := d, cells := 0, slots := 0, locals := 37 * d }
def gPc (w : gW) (av : List Value) (μ : gM) : Array Value → State → Prop := va_Pc (av.map (tv w.2.2.1)) (fun U => va_P w.1 vwCl (gwl w μ) U.heap ∧ va_D (gA w) (gwl w μ) ∧ va_K w.1 vwCl (g_tys w.2.1) U ∧ (∀ q ∈ gNb, va_Nw q U) ∧ w.2.2.2.2.2 U)
def gQ (w : gW) (r : Option Value) (μ' : gM) : Array Value → State → Outcome → State → Prop := fun _ s o t => o = .returned (r.map (tv w.2.2.1)) ∧ va_P w.1 vwCl (gwl w μ') t.heap ∧ va_F (gA w) s t
def gJok (w : gW) : Prop := ∀ u U : State, w.2.2.2.2.2 u → u.WarmedH U.vm → va_F (gA w) u U → w.2.2.2.2.2 U
def gMet (l : Launch) (d : Nat) (y : MethodName) (cc : ByteArray) (nL : Nat) (ret : Option FieldType) (w : gW) (av : List Value) (μ : gM) (r : Option Value) (μ' : gM) : Prop :=
  Met l y (.code y cc nL ret :: gTb) (g_rm d) (gPc w av μ) (gQ w r μ') 0 0 (gA w)
/-- a method's own words -/
def gMf (y : MethodName) (cc : ByteArray) (nL : Nat) (ret : Option FieldType) (n : Nat) : Prop := Cond.code y cc nL ret ∈ gTb ∧ Cond.initialized y.cls ∈ gTb ∧ y.cls ≠ "java/lang/invoke/MethodHandle" ∧ y.cls ≠ "java/lang/invoke/VarHandle" ∧ (parseMethodDescriptor y.desc).map (fun d => d.parameters.length) = some n ∧ plainName y.cls = true ∧ nL ≤ 18
theorem gGood {y : MethodName} {cc : ByteArray} {nL : Nat} {ret : Option FieldType} (h : Cond.code y cc nL ret ∈ gTb) : GoodIn gTb (.code y cc nL ret :: gTb) := by
  intro q hq
  have h1 : q ∈ gTb := by
    rcases List.mem_cons.mp hq with rfl | h1
    · exact h
    · exact h1
  exact ⟨h1, good_of_word (List.mem_filter.mp h1).2⟩
theorem g_blind {w : gW} {av : List Value} {μ : gM} (hJ : gJok w) : FrameBlind (gPc w av μ) := by
  intro a U g mk q
  obtain ⟨q0, q1, q2, q3, q4, q5⟩ := q
  exact ⟨q0, q1, q2, va_K.moved (u := U) (U := U.calling g mk a) (Vm.Alike.refl U.vm) q3, fun z hz => va_Nw.same (u := U) (U := U.calling g mk a) (g_nest hz) rfl (q4 z hz), hJ U _ q5 (State.WarmedH.refl U) ⟨Nat.le_refl _, fun _ _ _ => rfl⟩⟩
theorem g_lenmap {ad : Nat → Nat} {rest : List Value} : ((rest.map (tv ad)).map fun v => v.category).sum = (rest.map fun v => v.category).sum := by
  rw [List.map_map]
  congr 1
  apply List.map_congr_left
  intro v _
  exact tv_cat ad v
theorem g_nwarm {s U : State} (hW : s.WarmedH U.vm) (h : ∀ q ∈ gNb, va_Nw q s) : ∀ q ∈ gNb, va_Nw q U := by
  intro q hq
  have h1 := (List.mem_filter.mp hq).2
  have h2 := h q hq
  cases q <;> first | exact va_Nw.warmF hW h2 | exact va_Nw.warmM hW h2 | (simp [g_isN] at h1)
section GCALL
variable {X : gX} {w : gW} {K : gK} {kc ks nL pc d : Nat} {own : String} {Q : State → Prop} {lv lv' : List (Nat × Value)} {st : List Value} {μ : gM}
theorem g_pre (C : gC X w K nL own d) {av : List Value} {H : Heap} {locs : List Loc} (hP : va_P w.1 vwCl (gwl w μ) H) (hD : va_D (gA w) (gwl w μ)) (hS : va_S (gA w) X.2.2.2.2.1.heap H locs) : ∀ U : State, U.heap = H → X.2.2.2.2.1.WarmedH U.vm → gPc w av μ (av.map (tv w.2.2.1)).toArray U := by
  intro U hU hW
  exact ⟨rfl, by rw [hU]; exact hP, hD, va_K.moved hW.alike C.2.2.2.2.2.2.1, g_nwarm hW C.2.2.2.2.2.1, C.2.2.2.2.2.2.2.2.2.2.2 _ U C.2.2.2.2.2.2.2.2.2.2.1 hW (hS.F hU)⟩
/-- behind a call -/
theorem g_back {rest : List Value} {H : Heap} {locs : List Loc} {a : Array Value} {r : Option Value} {μ' : gM} {ls : Array Slot} {st0 : List Value} {mc ms : Nat}
    (hr : va_Run X.1 X.2.1 X.2.2.1 X.2.2.2.1 X.2.2.2.2.1 X.2.2.2.2.2.1 X.2.2.2.2.2.2.1 X.2.2.2.2.2.2.2.1 X.2.2.2.2.2.2.2.2.1 X.2.2.2.2.2.2.2.2.2 H locs kc ks mc ms (F0 X.2.2.2.2.2.1 pc ls st0) (rest.map (tv w.2.2.1)) (gQ w r μ' a) (gA w))
    (hD : va_D (gA w) (gwl w μ)) (hS : va_S (gA w) X.2.2.2.2.1.heap H locs) (hl : lv_has ls nL (lv.map (tvp w.2.2.1))) (kk : gV X w (kc + mc) (ks + ms) Q nL (pc + 3) lv (r.toList ++ rest) μ') :
    W X.1 X.2.1 X.2.2.1 X.2.2.2.1 X.2.2.2.2.1 X.2.2.2.2.2.1 X.2.2.2.2.2.2.1 X.2.2.2.2.2.2.2.1 X.2.2.2.2.2.2.2.2.1 X.2.2.2.2.2.2.2.2.2 H locs kc ks Q (F0 X.2.2.2.2.2.1 pc ls st0) := by
  intro T hT X1
  obtain ⟨v, s0, t, T', L, h0, X', hL, e1, e2, ⟨hv, hp, hz, hk⟩, hgo⟩ := hr T hT X1
  cases hv
  rw [h0] at hz hk
  have hD' : va_D (gA w) (gwl w μ') := by
    refine ⟨fun i j p q hi hj => ?_, fun k q hq => ?_⟩
    · have key : ∀ {m : gM} {i : Nat} {p : Nat × va_E}, (gwl w m)[i]? = some p → p.1 = w.2.2.1 i ∧ i < w.2.2.2.2.1.length := by
        intro m i p h
        have hlt : i < (gwl w m).length := (List.getElem?_eq_some_iff.mp h).1
        rw [gwl, g_wl_len] at hlt
        have h2 := g_wl_at (ad := w.2.2.1) (cA := w.2.1) (μ := m) (List.getElem?_eq_getElem hlt)
        rw [gwl, h2] at h
        cases h
        exact ⟨rfl, hlt⟩
      intro hpq
      obtain ⟨a1, a2⟩ := key hi
      obtain ⟨b1, b2⟩ := key hj
      exact hD.1 i j _ _ (g_wl_at (List.getElem?_eq_getElem a2)) (g_wl_at (List.getElem?_eq_getElem b2)) (by rw [a1, b1] at hpq; exact hpq)
    · have hlt : k < (gwl w μ').length := (List.getElem?_eq_some_iff.mp hq).1
      rw [gwl, g_wl_len] at hlt
      have h2 := g_wl_at (ad := w.2.2.1) (cA := w.2.1) (μ := μ') (List.getElem?_eq_getElem hlt)
      rw [gwl, h2] at hq
      cases hq
      exact hD.2 k (w.2.2.1 k, g_ce w.2.2.1 w.2.1 μ k _) (g_wl_at (List.getElem?_eq_getElem hlt))
  have hS' : va_S (gA w) X.2.2.2.2.1.heap T'.heap (locs ++ L) := ⟨Nat.le_trans hS.1 (by rw [e1]; exact hz), fun q h1 h2 => by rw [e1, hk q (Nat.lt_of_lt_of_le h1 hS.1) h2]; exact hS.2.1 q h1 h2, fun q hq => by
    rcases List.mem_append.mp hq with h | h
    · exact hS.2.2 q h
    · exact hL q h⟩
  have kk' := kk T'.heap (locs ++ L) ls (by rw [e1]; exact hp) hD' hS' hl
  have e3 : (r.toList ++ rest).map (tv w.2.2.1) = (r.map (tv w.2.2.1)).toList ++ rest.map (tv w.2.2.1) := by cases r <;> rfl
  rw [e3] at kk'
  obtain ⟨t2, a1, b1⟩ := kk' T' rfl X'
  exact ⟨t2, hgo t2 a1, b1⟩
theorem v_callV (C : gC X w K nL own d) (i : Nat) {idx d2 ci n nL2 b : Nat} {y : MethodName} {cc2 : ByteArray} {ret2 : Option FieldType} {av : List Value} {r : Option Value} {μ' : gM} {Cn : String} {T : u_T} {N : Nat} (hd : K[i]? = some (pc, .invokevirtual idx, 3))
    (F : gMf y cc2 nL2 ret2 n) (hcl : gCls ci Cn T N) (hC : y.cls = Cn) (hi : Cond.instanceMethod y ∈ gTb ∧ Cond.selects Cn y y ∈ gTb) (hk : Cond.methodLink own idx y ∈ gTb ∨ ∃ host, Cond.methodLinkNest own idx y host ∈ gNb) (hM : gMet X.2.1 d2 y cc2 nL2 ret2 w (.ref b :: av) μ r μ') (hd2 : d2 < d) (hn : av.length = n) (hs : w.2.2.2.2.1[b]? = some (.inl ci)) (hst : (st.map fun v => v.category).sum ≤ 8) (hroom : kc ≤ X.2.2.2.1.cells ∧ ks ≤ X.2.2.2.1.slots)
    {st0 : List Value} (h0 : st0 = av.reverse ++ .ref b :: st) (kk : gV X w kc ks Q nL (pc + 3) lv (r.toList ++ st) μ') : gV X w kc ks Q nL pc lv st0 μ := by
  intro H locs ls hP hD hS hl
  subst h0
  obtain ⟨f1, f2, f3, f4, f5, f6, f7⟩ := F
  obtain ⟨c1, -, -, -, -⟩ := hcl
  have hR : (g_rm d2).frames + 1 ≤ X.2.2.2.1.frames ∧ 8 + (nL2 + 11) + (g_rm d2).locals ≤ X.2.2.2.1.locals := by
    have a1 := C.2.2.2.2.2.2.2.2.1
    have a2 := C.2.2.2.2.2.2.2.2.2.1
    simp only [g_rm]
    omega
  have hp : PreV X.2.2.2.2.1 H Cn (w.2.2.1 b) (gPc w (.ref b :: av) μ) (av.map (tv w.2.2.1)) := ⟨g_blind C.2.2.2.2.2.2.2.2.2.2.2, va_recv (q0 := b) (q := (Cn, T, N)) C.2.2.2.2.2.2.1 hP c1 (g_wl_at hs), g_pre C hP hD hS⟩
  have hstack : (F0 X.2.2.2.2.2.1 pc ls ((av.reverse ++ .ref b :: st).map (tv w.2.2.1))).stack = (av.map (tv w.2.2.1)).reverse ++ .ref (w.2.2.1 b) :: st.map (tv w.2.2.1) := by
    simp [tv, List.map_reverse]
  have hW8 : 2 * (F0 X.2.2.2.2.2.1 pc ls ((av.reverse ++ .ref b :: st).map (tv w.2.2.1))).monitorRoom + ((st.map (tv w.2.2.1)).map fun v => v.category).sum ≤ 8 := lv_room (by rw [g_lenmap]; exact hst)
  rcases hk with hk | ⟨host, hk⟩
  · exact g_back (va_runV (C := Cn) (b := w.2.2.1 b) (n := n) ⟨C.1, rfl, C.2.2.1, C.2.2.2.1, C.2.2.2.2.1⟩ hM ⟨callB_of n C.2.2.2.2.1 (gGood f1) rfl rfl rfl (C.2.2.2.2.1 _ f2) (C.2.2.2.2.1 _ hk) ⟨f3, f4, f5⟩ hR, C.2.2.2.2.1 _ hi.1, C.2.2.2.2.1 _ hi.2⟩ hp rfl (by rw [List.length_map]; exact hn) hl.1 hstack hW8 (g_at C i hd) hroom) hD hS hl kk
  · exact g_back (va_runVN (C := Cn) (b := w.2.2.1 b) (n := n) ⟨C.1, rfl, C.2.2.1, C.2.2.2.1, C.2.2.2.2.1⟩ hM ⟨va_cnB n C.2.2.2.2.1 (gGood f1) rfl rfl rfl (C.2.2.2.2.2.1 _ hk) (C.2.2.2.2.1 _ f2) ⟨f3, f4, f5⟩ hR, C.2.2.2.2.1 _ hi.1, C.2.2.2.2.1 _ hi.2⟩ hp rfl (by rw [List.length_map]; exact hn) hl.1 hstack hW8 (g_at C i hd) hroom) hD hS hl kk
theorem v_callS (C : gC X w K nL own d) (i : Nat) {idx d2 n nL2 : Nat} {y : MethodName} {cc2 : ByteArray} {ret2 : Option FieldType} {av : List Value} {r : Option Value} {μ' : gM} (hd : K[i]? = some (pc, .invokestatic idx, 3))
    (F : gMf y cc2 nL2 ret2 n) (hi : Cond.static y ∈ gTb) (hk : Cond.methodLink own idx y ∈ gTb ∨ ∃ host, Cond.methodLinkNest own idx y host ∈ gNb) (hM : gMet X.2.1 d2 y cc2 nL2 ret2 w av μ r μ') (hd2 : d2 < d) (hn : av.length = n) (hst : (st.map fun v => v.category).sum ≤ 8) (hroom : kc ≤ X.2.2.2.1.cells ∧ ks ≤ X.2.2.2.1.slots)
    {st0 : List Value} (h0 : st0 = av.reverse ++ st) (kk : gV X w kc ks Q nL (pc + 3) lv (r.toList ++ st) μ') : gV X w kc ks Q nL pc lv st0 μ := by
  intro H locs ls hP hD hS hl
  subst h0
  obtain ⟨f1, f2, f3, f4, f5, f6, f7⟩ := F
  have hR : (g_rm d2).frames + 1 ≤ X.2.2.2.1.frames ∧ 8 + (nL2 + 11) + (g_rm d2).locals ≤ X.2.2.2.1.locals := by
    have a1 := C.2.2.2.2.2.2.2.2.1
    have a2 := C.2.2.2.2.2.2.2.2.2.1
    simp only [g_rm]
    omega
  have hp : PreS X.2.2.2.2.1 H (gPc w av μ) (av.map (tv w.2.2.1)) := ⟨g_blind C.2.2.2.2.2.2.2.2.2.2.2, g_pre C hP hD hS⟩
  have hstack : (F0 X.2.2.2.2.2.1 pc ls ((av.reverse ++ st).map (tv w.2.2.1))).stack = (av.map (tv w.2.2.1)).reverse ++ st.map (tv w.2.2.1) := by
    simp [List.map_reverse]
  have hW8 : 2 * (F0 X.2.2.2.2.2.1 pc ls ((av.reverse ++ st).map (tv w.2.2.1))).monitorRoom + ((st.map (tv w.2.2.1)).map fun v => v.category).sum ≤ 8 := lv_room (by rw [g_lenmap]; exact hst)
  rcases hk with hk | ⟨host, hk⟩
  · exact g_back (va_runS (n := n) ⟨C.1, rfl, C.2.2.1, C.2.2.2.1, C.2.2.2.2.1⟩ hM ⟨callB_of n C.2.2.2.2.1 (gGood f1) rfl rfl rfl (C.2.2.2.2.1 _ f2) (C.2.2.2.2.1 _ hk) ⟨f3, f4, f5⟩ hR, C.2.2.2.2.1 _ hi⟩ hp rfl (by rw [List.length_map]; exact hn) hl.1 hstack hW8 (g_at C i hd) hroom) hD hS hl kk
  · exact g_back (va_runSN (n := n) ⟨C.1, rfl, C.2.2.1, C.2.2.2.1, C.2.2.2.2.1⟩ hM ⟨va_cnB n C.2.2.2.2.1 (gGood f1) rfl rfl rfl (C.2.2.2.2.2.1 _ hk) (C.2.2.2.2.1 _ f2) ⟨f3, f4, f5⟩ hR, C.2.2.2.2.1 _ hi, trivial⟩ hp rfl (by rw [List.length_map]; exact hn) hl.1 hstack hW8 (g_at C i hd) hroom) hD hS hl kk
end GCALL
/-! returns -/
def gR (X : gX) (w : gW) (r : Option Value) (μ' : gM) : State → Prop := MQ X.2.2.2.2.2.2.2.1 (gQ w r μ') X.2.2.2.2.2.2.1 X.2.2.2.2.1 0 0 (gA w)
section GRET
variable {X : gX} {w : gW} {K : gK} {nL pc d : Nat} {own : String} {lv : List (Nat × Value)} {μ : gM}
theorem v_iret (C : gC X w K nL own d) (i : Nat) {v : Int32} (hd : K[i]? = some (pc, .ireturn, 1)) (hr : X.2.2.2.2.2.2.2.2.1.sig.returnType = some .int) : gV X w 0 0 (gR X w (some (.int v)) μ) nL pc lv [.int v] μ := fun H locs ls hP hD hS hl =>
  W.iret (v := v) C.1 rfl hr (fun t ht hW => ⟨rfl, by rw [ht]; exact hP, hS.F ht⟩) hS.2.2 (g_at C i hd) C.2.2.2.2.2.2.2.1
theorem v_zret (C : gC X w K nL own d) (i : Nat) {v : Int32} (hd : K[i]? = some (pc, .ireturn, 1)) (hr : X.2.2.2.2.2.2.2.2.1.sig.returnType = some .boolean) (h01 : v = 0 ∨ v = 1) : gV X w 0 0 (gR X w (some (.int v)) μ) nL pc lv [.int v] μ := fun H locs ls hP hD hS hl =>
  W.zret (v := v) (ty := .boolean) C.1 rfl hr (by rcases h01 with rfl | rfl <;> decide +kernel) (fun t ht hW => ⟨rfl, by rw [ht]; exact hP, hS.F ht⟩) hS.2.2 (g_at C i hd) C.2.2.2.2.2.2.2.1
theorem v_lret (C : gC X w K nL own d) (i : Nat) {v : Int64} (hd : K[i]? = some (pc, .lreturn, 1)) (hr : X.2.2.2.2.2.2.2.2.1.sig.returnType = some .long) : gV X w 0 0 (gR X w (some (.long v)) μ) nL pc lv [.long v] μ := fun H locs ls hP hD hS hl =>
  W.lret (v := v) C.1 rfl hr (fun t ht hW => ⟨rfl, by rw [ht]; exact hP, hS.F ht⟩) hS.2.2 (g_at C i hd) C.2.2.2.2.2.2.2.1
theorem v_vret (C : gC X w K nL own d) (i : Nat) (hd : K[i]? = some (pc, .return_, 1)) (hr : X.2.2.2.2.2.2.2.2.1.sig.returnType = none) : gV X w 0 0 (gR X w none μ) nL pc lv [] μ := fun H locs ls hP hD hS hl =>
  W.vret C.1 rfl hr (fun t ht hW => ⟨rfl, by rw [ht]; exact hP, hS.F ht⟩) hS.2.2 (g_at C i hd) C.2.2.2.2.2.2.2.1
end GRET
/-- a body gives a contract -/
theorem gMet.of {l : Launch} {d : Nat} {y : MethodName} {cc : ByteArray} {nL n : Nat} {ret : Option FieldType} {w : gW} {av : List Value} {μ : gM} {r : Option Value} {μ' : gM} {K : gK} (hJ : gJok w) (F : gMf y cc nL ret n) (hK : ∀ q ∈ K, decode cc q.1 = .ok q.2) (hav : (lg_sl (av.map (tv w.2.2.1))).length ≤ nL)
    (body : ∀ X : gX, X.2.1 = l → gC X w K nL y.cls d → X.2.2.2.2.2.2.2.2.1.sig.returnType = ret → gV X w 0 0 (gR X w r μ') nL 0 (lv_args 0 av) [] μ) : gMet l d y cc nL ret w av μ r μ' := by
  refine Met.ofW (cc := cc) (maxL := nL) (ret := ret) F.2.2.2.2.2.1 rfl ?_
  intro p e s m args below meth c s1 B hml hv
  obtain ⟨rfl, hP, hD, hKk, hN, hJs⟩ := hv
  have hts := atoms_spec (ws := Cond.code y cc nL ret :: gTb) B.pre
  have hb := B.bytes
  have hX := body (p, l, e, (headSpec (Cond.code y cc nL ret :: gTb) (g_rm d)).room, s, m, (av.map (tv w.2.2.1)).toArray, below, meth, c) rfl ⟨B.exec, by rw [hb]; exact hK, hml, findClass_of_methodNamed B.named, fun q hq => hts q (List.mem_cons_of_mem _ hq), hN, hKk, B.notSynchronized, Nat.le_refl _, Nat.le_refl _, hJs, hJ⟩ B.returns
  have hl := lv_entry (av.map (tv w.2.2.1)) (n := nL) hav
  rw [lg_entry_eq]
  have hla : lv_args 0 (av.map (tv w.2.2.1)) = (lv_args 0 av).map (tvp w.2.2.1) := by
    have key : ∀ (av : List Value) (i : Nat), lv_args i (av.map (tv w.2.2.1)) = (lv_args i av).map (tvp w.2.2.1) := by
      intro av
      induction av with
      | nil => intro i; rfl
      | cons v av ih =>
        intro i
        simp only [lv_args, List.map_cons, ih]
        cases v <;> rfl
    exact key av 0
  rw [hla] at hl
  exact hX s.heap [] _ hP hD va_S.rf hl
end
