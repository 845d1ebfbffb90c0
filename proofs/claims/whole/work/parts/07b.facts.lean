set_option maxRecDepth 100000 in
theorem mf_X3_takeAtom : gMf yX3_takeAtom cX3_takeAtom 2 (some .int) 1 := ⟨g_tb 585 rfl (by decide +kernel), g_tb 82 rfl rfl, by decide +kernel, by decide +kernel, by decide +kernel, by decide +kernel, by decide⟩
set_option maxRecDepth 100000 in
theorem im_X3_takeAtom : Cond.instanceMethod yX3_takeAtom ∈ gTb ∧ Cond.selects yX3_takeAtom.cls yX3_takeAtom yX3_takeAtom ∈ gTb := ⟨g_tb 584 rfl rfl, g_tb 13 rfl rfl⟩
set_option maxRecDepth 100000 in
theorem mf_X3_takeScopeWord : gMf yX3_takeScopeWord cX3_takeScopeWord 4 (some .int) 2 := ⟨g_tb 605 rfl (by decide +kernel), g_tb 82 rfl rfl, by decide +kernel, by decide +kernel, by decide +kernel, by decide +kernel, by decide⟩
set_option maxRecDepth 100000 in
theorem im_X3_takeScopeWord : Cond.instanceMethod yX3_takeScopeWord ∈ gTb ∧ Cond.selects yX3_takeScopeWord.cls yX3_takeScopeWord yX3_takeScopeWord ∈ gTb := ⟨g_tb 604 rfl rfl, g_tb 16 rfl rfl⟩
set_option maxRecDepth 100000 in
theorem mf_X3_takeBehindAtom : gMf yX3_takeBehindAtom cX3_takeBehindAtom 3 (some .int) 1 := ⟨g_tb 610 rfl (by decide +kernel), g_tb 82 rfl rfl, by decide +kernel, by decide +kernel, by decide +kernel, by decide +kernel, by decide⟩
set_option maxRecDepth 100000 in
theorem im_X3_takeBehindAtom : Cond.instanceMethod yX3_takeBehindAtom ∈ gTb ∧ Cond.selects yX3_takeBehindAtom.cls yX3_takeBehindAtom yX3_takeBehindAtom ∈ gTb := ⟨g_tb 609 rfl rfl, g_tb 17 rfl rfl⟩
set_option maxRecDepth 100000 in
theorem mf_X3_hasBinds : gMf yX3_hasBinds cX3_hasBinds 1 (some .boolean) 1 := ⟨g_tb 621 rfl (by decide +kernel), g_tb 82 rfl rfl, by decide +kernel, by decide +kernel, by decide +kernel, by decide +kernel, by decide⟩
set_option maxRecDepth 100000 in
theorem sm_X3_hasBinds : Cond.static yX3_hasBinds ∈ gTb := g_tb 620 rfl rfl
set_option maxRecDepth 100000 in
theorem mf_X3_takeName : gMf yX3_takeName cX3_takeName 1 (some .int) 0 := ⟨g_tb 637 rfl (by decide +kernel), g_tb 82 rfl rfl, by decide +kernel, by decide +kernel, by decide +kernel, by decide +kernel, by decide⟩
set_option maxRecDepth 100000 in
theorem im_X3_takeName : Cond.instanceMethod yX3_takeName ∈ gTb ∧ Cond.selects yX3_takeName.cls yX3_takeName yX3_takeName ∈ gTb := ⟨g_tb 636 rfl rfl, g_tb 22 rfl rfl⟩
set_option maxRecDepth 100000 in
theorem mf_X3_takeModuleName : gMf yX3_takeModuleName cX3_takeModuleName 3 (some .int) 0 := ⟨g_tb 641 rfl (by decide +kernel), g_tb 82 rfl rfl, by decide +kernel, by decide +kernel, by decide +kernel, by decide +kernel, by decide⟩
set_option maxRecDepth 100000 in
theorem im_X3_takeModuleName : Cond.instanceMethod yX3_takeModuleName ∈ gTb ∧ Cond.selects yX3_takeModuleName.cls yX3_takeModuleName yX3_takeModuleName ∈ gTb := ⟨g_tb 640 rfl rfl, g_tb 23 rfl rfl⟩
set_option maxRecDepth 100000 in
theorem mf_X3_takeImportName : gMf yX3_takeImportName cX3_takeImportName 1 (some .int) 0 := ⟨g_tb 649 rfl (by decide +kernel), g_tb 82 rfl rfl, by decide +kernel, by decide +kernel, by decide +kernel, by decide +kernel, by decide⟩
set_option maxRecDepth 100000 in
theorem im_X3_takeImportName : Cond.instanceMethod yX3_takeImportName ∈ gTb ∧ Cond.selects yX3_takeImportName.cls yX3_takeImportName yX3_takeImportName ∈ gTb := ⟨g_tb 648 rfl rfl, g_tb 24 rfl rfl⟩
set_option maxRecDepth 100000 in
theorem mf_X3_takeImportEnd : gMf yX3_takeImportEnd cX3_takeImportEnd 1 (some .int) 0 := ⟨g_tb 614 rfl (by decide +kernel), g_tb 82 rfl rfl, by decide +kernel, by decide +kernel, by decide +kernel, by decide +kernel, by decide⟩
set_option maxRecDepth 100000 in
theorem im_X3_takeImportEnd : Cond.instanceMethod yX3_takeImportEnd ∈ gTb ∧ Cond.selects yX3_takeImportEnd.cls yX3_takeImportEnd yX3_takeImportEnd ∈ gTb := ⟨g_tb 613 rfl rfl, g_tb 18 rfl rfl⟩
set_option maxRecDepth 100000 in
theorem mf_X3_takeBindName : gMf yX3_takeBindName cX3_takeBindName 4 (some .int) 0 := ⟨g_tb 657 rfl (by decide +kernel), g_tb 82 rfl rfl, by decide +kernel, by decide +kernel, by decide +kernel, by decide +kernel, by decide⟩
set_option maxRecDepth 100000 in
theorem im_X3_takeBindName : Cond.instanceMethod yX3_takeBindName ∈ gTb ∧ Cond.selects yX3_takeBindName.cls yX3_takeBindName yX3_takeBindName ∈ gTb := ⟨g_tb 656 rfl rfl, g_tb 26 rfl rfl⟩
set_option maxRecDepth 100000 in
theorem mf_X3_takeIn : gMf yX3_takeIn cX3_takeIn 1 (some .int) 0 := ⟨g_tb 625 rfl (by decide +kernel), g_tb 82 rfl rfl, by decide +kernel, by decide +kernel, by decide +kernel, by decide +kernel, by decide⟩
set_option maxRecDepth 100000 in
theorem im_X3_takeIn : Cond.instanceMethod yX3_takeIn ∈ gTb ∧ Cond.selects yX3_takeIn.cls yX3_takeIn yX3_takeIn ∈ gTb := ⟨g_tb 624 rfl rfl, g_tb 19 rfl rfl⟩
set_option maxRecDepth 100000 in
theorem mf_X3_takeFirstOfLong : gMf yX3_takeFirstOfLong cX3_takeFirstOfLong 1 (some .int) 0 := ⟨g_tb 589 rfl (by decide +kernel), g_tb 82 rfl rfl, by decide +kernel, by decide +kernel, by decide +kernel, by decide +kernel, by decide⟩
set_option maxRecDepth 100000 in
theorem im_X3_takeFirstOfLong : Cond.instanceMethod yX3_takeFirstOfLong ∈ gTb ∧ Cond.selects yX3_takeFirstOfLong.cls yX3_takeFirstOfLong yX3_takeFirstOfLong ∈ gTb := ⟨g_tb 588 rfl rfl, g_tb 14 rfl rfl⟩
set_option maxRecDepth 100000 in
theorem mf_X3_takeNextOfLong : gMf yX3_takeNextOfLong cX3_takeNextOfLong 3 (some .int) 0 := ⟨g_tb 661 rfl (by decide +kernel), g_tb 82 rfl rfl, by decide +kernel, by decide +kernel, by decide +kernel, by decide +kernel, by decide⟩
set_option maxRecDepth 100000 in
theorem im_X3_takeNextOfLong : Cond.instanceMethod yX3_takeNextOfLong ∈ gTb ∧ Cond.selects yX3_takeNextOfLong.cls yX3_takeNextOfLong yX3_takeNextOfLong ∈ gTb := ⟨g_tb 660 rfl rfl, g_tb 27 rfl rfl⟩
set_option maxRecDepth 100000 in
theorem mf_X3_declareIn : gMf yX3_declareIn cX3_declareIn 3 (some .int) 2 := ⟨g_tb 653 rfl (by decide +kernel), g_tb 82 rfl rfl, by decide +kernel, by decide +kernel, by decide +kernel, by decide +kernel, by decide⟩
set_option maxRecDepth 100000 in
theorem im_X3_declareIn : Cond.instanceMethod yX3_declareIn ∈ gTb ∧ Cond.selects yX3_declareIn.cls yX3_declareIn yX3_declareIn ∈ gTb := ⟨g_tb 652 rfl rfl, g_tb 25 rfl rfl⟩
set_option maxRecDepth 100000 in
theorem mf_X3_turnTo : gMf yX3_turnTo cX3_turnTo 2 (some .int) 1 := ⟨g_tb 561 rfl (by decide +kernel), g_tb 82 rfl rfl, by decide +kernel, by decide +kernel, by decide +kernel, by decide +kernel, by decide⟩
set_option maxRecDepth 100000 in
theorem im_X3_turnTo : Cond.instanceMethod yX3_turnTo ∈ gTb ∧ Cond.selects yX3_turnTo.cls yX3_turnTo yX3_turnTo ∈ gTb := ⟨g_tb 560 rfl rfl, g_tb 7 rfl rfl⟩
set_option maxRecDepth 100000 in
theorem mf_X3_openTo : gMf yX3_openTo cX3_openTo 2 (some .int) 1 := ⟨g_tb 581 rfl (by decide +kernel), g_tb 82 rfl rfl, by decide +kernel, by decide +kernel, by decide +kernel, by decide +kernel, by decide⟩
set_option maxRecDepth 100000 in
theorem im_X3_openTo : Cond.instanceMethod yX3_openTo ∈ gTb ∧ Cond.selects yX3_openTo.cls yX3_openTo yX3_openTo ∈ gTb := ⟨g_tb 580 rfl rfl, g_tb 12 rfl rfl⟩
set_option maxRecDepth 100000 in
theorem mf_X3_closeTo : gMf yX3_closeTo cX3_closeTo 2 (some .int) 1 := ⟨g_tb 569 rfl (by decide +kernel), g_tb 82 rfl rfl, by decide +kernel, by decide +kernel, by decide +kernel, by decide +kernel, by decide⟩
set_option maxRecDepth 100000 in
theorem im_X3_closeTo : Cond.instanceMethod yX3_closeTo ∈ gTb ∧ Cond.selects yX3_closeTo.cls yX3_closeTo yX3_closeTo ∈ gTb := ⟨g_tb 568 rfl rfl, g_tb 9 rfl rfl⟩
set_option maxRecDepth 100000 in
theorem mf_X3_popTo : gMf yX3_popTo cX3_popTo 2 (some .int) 1 := ⟨g_tb 573 rfl (by decide +kernel), g_tb 82 rfl rfl, by decide +kernel, by decide +kernel, by decide +kernel, by decide +kernel, by decide⟩
set_option maxRecDepth 100000 in
theorem im_X3_popTo : Cond.instanceMethod yX3_popTo ∈ gTb ∧ Cond.selects yX3_popTo.cls yX3_popTo yX3_popTo ∈ gTb := ⟨g_tb 572 rfl rfl, g_tb 10 rfl rfl⟩
set_option maxRecDepth 100000 in
theorem mf_X3_push : gMf yX3_push cX3_push 3 none 2 := ⟨g_tb 601 rfl (by decide +kernel), g_tb 82 rfl rfl, by decide +kernel, by decide +kernel, by decide +kernel, by decide +kernel, by decide⟩
set_option maxRecDepth 100000 in
theorem im_X3_push : Cond.instanceMethod yX3_push ∈ gTb ∧ Cond.selects yX3_push.cls yX3_push yX3_push ∈ gTb := ⟨g_tb 600 rfl rfl, g_tb 15 rfl rfl⟩
set_option maxRecDepth 100000 in
theorem mf_X3_setTop : gMf yX3_setTop cX3_setTop 3 none 2 := ⟨g_tb 633 rfl (by decide +kernel), g_tb 82 rfl rfl, by decide +kernel, by decide +kernel, by decide +kernel, by decide +kernel, by decide⟩
set_option maxRecDepth 100000 in
theorem im_X3_setTop : Cond.instanceMethod yX3_setTop ∈ gTb ∧ Cond.selects yX3_setTop.cls yX3_setTop yX3_setTop ∈ gTb := ⟨g_tb 632 rfl rfl, g_tb 21 rfl rfl⟩
set_option maxRecDepth 100000 in
theorem mf_X3_topFrame : gMf yX3_topFrame cX3_topFrame 1 (some .int) 0 := ⟨g_tb 565 rfl (by decide +kernel), g_tb 82 rfl rfl, by decide +kernel, by decide +kernel, by decide +kernel, by decide +kernel, by decide⟩
set_option maxRecDepth 100000 in
theorem im_X3_topFrame : Cond.instanceMethod yX3_topFrame ∈ gTb ∧ Cond.selects yX3_topFrame.cls yX3_topFrame yX3_topFrame ∈ gTb := ⟨g_tb 564 rfl rfl, g_tb 8 rfl rfl⟩
set_option maxRecDepth 100000 in
theorem mf_X3_topOuter : gMf yX3_topOuter cX3_topOuter 1 (some .int) 0 := ⟨g_tb 577 rfl (by decide +kernel), g_tb 82 rfl rfl, by decide +kernel, by decide +kernel, by decide +kernel, by decide +kernel, by decide⟩
set_option maxRecDepth 100000 in
theorem im_X3_topOuter : Cond.instanceMethod yX3_topOuter ∈ gTb ∧ Cond.selects yX3_topOuter.cls yX3_topOuter yX3_topOuter ∈ gTb := ⟨g_tb 576 rfl rfl, g_tb 11 rfl rfl⟩
set_option maxRecDepth 100000 in
theorem mf_X3_topInner : gMf yX3_topInner cX3_topInner 1 (some .int) 0 := ⟨g_tb 629 rfl (by decide +kernel), g_tb 82 rfl rfl, by decide +kernel, by decide +kernel, by decide +kernel, by decide +kernel, by decide⟩
set_option maxRecDepth 100000 in
theorem im_X3_topInner : Cond.instanceMethod yX3_topInner ∈ gTb ∧ Cond.selects yX3_topInner.cls yX3_topInner yX3_topInner ∈ gTb := ⟨g_tb 628 rfl rfl, g_tb 20 rfl rfl⟩
set_option maxRecDepth 100000 in
theorem mf_X4_init : gMf yX4_init cX4_init 3 none 2 := ⟨g_tb 336 rfl (by decide +kernel), g_tb 84 rfl rfl, by decide +kernel, by decide +kernel, by decide +kernel, by decide +kernel, by decide⟩
set_option maxRecDepth 100000 in
theorem mf_X4_resolve : gMf yX4_resolve cX4_resolve 7 none 2 := ⟨g_tb 677 rfl (by decide +kernel), g_tb 84 rfl rfl, by decide +kernel, by decide +kernel, by decide +kernel, by decide +kernel, by decide⟩
set_option maxRecDepth 100000 in
theorem im_X4_resolve : Cond.instanceMethod yX4_resolve ∈ gTb ∧ Cond.selects yX4_resolve.cls yX4_resolve yX4_resolve ∈ gTb := ⟨g_tb 675 rfl rfl, g_tb 676 rfl rfl⟩
set_option maxRecDepth 100000 in
theorem mf_X4_keep : gMf yX4_keep cX4_keep 5 none 2 := ⟨g_tb 712 rfl (by decide +kernel), g_tb 84 rfl rfl, by decide +kernel, by decide +kernel, by decide +kernel, by decide +kernel, by decide⟩
set_option maxRecDepth 100000 in
theorem im_X4_keep : Cond.instanceMethod yX4_keep ∈ gTb ∧ Cond.selects yX4_keep.cls yX4_keep yX4_keep ∈ gTb := ⟨g_tb 711 rfl rfl, g_tb 33 rfl rfl⟩
set_option maxRecDepth 100000 in
theorem mf_X4_followStatements : gMf yX4_followStatements cX4_followStatements 6 none 1 := ⟨g_tb 681 rfl (by decide +kernel), g_tb 84 rfl rfl, by decide +kernel, by decide +kernel, by decide +kernel, by decide +kernel, by decide⟩
set_option maxRecDepth 100000 in
theorem im_X4_followStatements : Cond.instanceMethod yX4_followStatements ∈ gTb ∧ Cond.selects yX4_followStatements.cls yX4_followStatements yX4_followStatements ∈ gTb := ⟨g_tb 680 rfl rfl, g_tb 29 rfl rfl⟩
set_option maxRecDepth 100000 in
theorem mf_X4_means : gMf yX4_means cX4_means 11 (some .long) 3 := ⟨g_tb 685 rfl (by decide +kernel), g_tb 84 rfl rfl, by decide +kernel, by decide +kernel, by decide +kernel, by decide +kernel, by decide⟩
set_option maxRecDepth 100000 in
theorem im_X4_means : Cond.instanceMethod yX4_means ∈ gTb ∧ Cond.selects yX4_means.cls yX4_means yX4_means ∈ gTb := ⟨g_tb 684 rfl rfl, g_tb 30 rfl rfl⟩
set_option maxRecDepth 100000 in
theorem mf_X4_local : gMf yX4_local cX4_local 16 (some .long) 3 := ⟨g_tb 702 rfl (by decide +kernel), g_tb 84 rfl rfl, by decide +kernel, by decide +kernel, by decide +kernel, by decide +kernel, by decide⟩
set_option maxRecDepth 100000 in
theorem im_X4_local : Cond.instanceMethod yX4_local ∈ gTb ∧ Cond.selects yX4_local.cls yX4_local yX4_local ∈ gTb := ⟨g_tb 701 rfl rfl, g_tb 31 rfl rfl⟩
set_option maxRecDepth 100000 in
theorem mf_X4_importedBy : gMf yX4_importedBy cX4_importedBy 7 (some .long) 2 := ⟨g_tb 707 rfl (by decide +kernel), g_tb 84 rfl rfl, by decide +kernel, by decide +kernel, by decide +kernel, by decide +kernel, by decide⟩
set_option maxRecDepth 100000 in
theorem im_X4_importedBy : Cond.instanceMethod yX4_importedBy ∈ gTb ∧ Cond.selects yX4_importedBy.cls yX4_importedBy yX4_importedBy ∈ gTb := ⟨g_tb 706 rfl rfl, g_tb 32 rfl rfl⟩
set_option maxRecDepth 100000 in
theorem mf_X5_init : gMf yX5_init cX5_init 1 none 0 := ⟨g_tb 111 rfl (by decide +kernel), g_tb 78 rfl rfl, by decide +kernel, by decide +kernel, by decide +kernel, by decide +kernel, by decide⟩
set_option maxRecDepth 100000 in
theorem mf_X5_at : gMf yX5_at cX5_at 2 (some .int) 1 := ⟨g_tb 405 rfl (by decide +kernel), g_tb 78 rfl rfl, by decide +kernel, by decide +kernel, by decide +kernel, by decide +kernel, by decide⟩
set_option maxRecDepth 100000 in
theorem im_X5_at : Cond.instanceMethod yX5_at ∈ gTb ∧ Cond.selects yX5_at.cls yX5_at yX5_at ∈ gTb := ⟨g_tb 403 rfl rfl, g_tb 404 rfl rfl⟩
set_option maxRecDepth 100000 in
theorem mf_X5_add : gMf yX5_add cX5_add 2 none 1 := ⟨g_tb 803 rfl (by decide +kernel), g_tb 78 rfl rfl, by decide +kernel, by decide +kernel, by decide +kernel, by decide +kernel, by decide⟩
set_option maxRecDepth 100000 in
theorem im_X5_add : Cond.instanceMethod yX5_add ∈ gTb ∧ Cond.selects yX5_add.cls yX5_add yX5_add ∈ gTb := ⟨g_tb 801 rfl rfl, g_tb 802 rfl rfl⟩
set_option maxRecDepth 100000 in
theorem mf_X5_addFour : gMf yX5_addFour cX5_addFour 2 none 1 := ⟨g_tb 799 rfl (by decide +kernel), g_tb 78 rfl rfl, by decide +kernel, by decide +kernel, by decide +kernel, by decide +kernel, by decide⟩
set_option maxRecDepth 100000 in
theorem im_X5_addFour : Cond.instanceMethod yX5_addFour ∈ gTb ∧ Cond.selects yX5_addFour.cls yX5_addFour yX5_addFour ∈ gTb := ⟨g_tb 797 rfl rfl, g_tb 798 rfl rfl⟩
set_option maxRecDepth 100000 in
theorem mf_X5_addName : gMf yX5_addName cX5_addName 6 none 2 := ⟨g_tb 968 rfl (by decide +kernel), g_tb 78 rfl rfl, by decide +kernel, by decide +kernel, by decide +kernel, by decide +kernel, by decide⟩
set_option maxRecDepth 100000 in
theorem im_X5_addName : Cond.instanceMethod yX5_addName ∈ gTb ∧ Cond.selects yX5_addName.cls yX5_addName yX5_addName ∈ gTb := ⟨g_tb 966 rfl rfl, g_tb 967 rfl rfl⟩
set_option maxRecDepth 100000 in
theorem mf_X6_init : gMf yX6_init cX6_init 1 none 0 := ⟨g_tb 272 rfl (by decide +kernel), g_tb 83 rfl rfl, by decide +kernel, by decide +kernel, by decide +kernel, by decide +kernel, by decide⟩
set_option maxRecDepth 100000 in
theorem mf_X6_begin : gMf yX6_begin cX6_begin 1 none 0 := ⟨g_tb 394 rfl (by decide +kernel), g_tb 83 rfl rfl, by decide +kernel, by decide +kernel, by decide +kernel, by decide +kernel, by decide⟩
set_option maxRecDepth 100000 in
theorem im_X6_begin : Cond.instanceMethod yX6_begin ∈ gTb ∧ Cond.selects yX6_begin.cls yX6_begin yX6_begin ∈ gTb := ⟨g_tb 392 rfl rfl, g_tb 393 rfl rfl⟩
set_option maxRecDepth 100000 in
theorem mf_X6_advance : gMf yX6_advance cX6_advance 3 none 1 := ⟨g_tb 398 rfl (by decide +kernel), g_tb 83 rfl rfl, by decide +kernel, by decide +kernel, by decide +kernel, by decide +kernel, by decide⟩
set_option maxRecDepth 100000 in
theorem im_X6_advance : Cond.instanceMethod yX6_advance ∈ gTb ∧ Cond.selects yX6_advance.cls yX6_advance yX6_advance ∈ gTb := ⟨g_tb 396 rfl rfl, g_tb 397 rfl rfl⟩
set_option maxRecDepth 100000 in
theorem mf_X6_areJustOneName : gMf yX6_areJustOneName cX6_areJustOneName 2 (some .boolean) 1 := ⟨g_tb 931 rfl (by decide +kernel), g_tb 83 rfl rfl, by decide +kernel, by decide +kernel, by decide +kernel, by decide +kernel, by decide⟩
set_option maxRecDepth 100000 in
theorem im_X6_areJustOneName : Cond.instanceMethod yX6_areJustOneName ∈ gTb ∧ Cond.selects yX6_areJustOneName.cls yX6_areJustOneName yX6_areJustOneName ∈ gTb := ⟨g_tb 929 rfl rfl, g_tb 930 rfl rfl⟩
set_option maxRecDepth 100000 in
theorem mf_X6_takeName : gMf yX6_takeName cX6_takeName 3 none 1 := ⟨g_tb 415 rfl (by decide +kernel), g_tb 83 rfl rfl, by decide +kernel, by decide +kernel, by decide +kernel, by decide +kernel, by decide⟩
set_option maxRecDepth 100000 in
theorem im_X6_takeName : Cond.instanceMethod yX6_takeName ∈ gTb ∧ Cond.selects yX6_takeName.cls yX6_takeName yX6_takeName ∈ gTb := ⟨g_tb 414 rfl rfl, g_tb 0 rfl rfl⟩
set_option maxRecDepth 100000 in
theorem mf_X6_packByte : gMf yX6_packByte cX6_packByte 3 none 2 := ⟨g_tb 425 rfl (by decide +kernel), g_tb 83 rfl rfl, by decide +kernel, by decide +kernel, by decide +kernel, by decide +kernel, by decide⟩
set_option maxRecDepth 100000 in
theorem im_X6_packByte : Cond.instanceMethod yX6_packByte ∈ gTb ∧ Cond.selects yX6_packByte.cls yX6_packByte yX6_packByte ∈ gTb := ⟨g_tb 424 rfl rfl, g_tb 1 rfl rfl⟩
set_option maxRecDepth 100000 in
theorem mf_X6_takeNumber : gMf yX6_takeNumber cX6_takeNumber 3 none 1 := ⟨g_tb 482 rfl (by decide +kernel), g_tb 83 rfl rfl, by decide +kernel, by decide +kernel, by decide +kernel, by decide +kernel, by decide⟩
set_option maxRecDepth 100000 in
theorem im_X6_takeNumber : Cond.instanceMethod yX6_takeNumber ∈ gTb ∧ Cond.selects yX6_takeNumber.cls yX6_takeNumber yX6_takeNumber ∈ gTb := ⟨g_tb 481 rfl rfl, g_tb 4 rfl rfl⟩
set_option maxRecDepth 100000 in
theorem mf_X6_wordOrName : gMf yX6_wordOrName cX6_wordOrName 2 (some .int) 0 := ⟨g_tb 429 rfl (by decide +kernel), g_tb 83 rfl rfl, by decide +kernel, by decide +kernel, by decide +kernel, by decide +kernel, by decide⟩
set_option maxRecDepth 100000 in
theorem im_X6_wordOrName : Cond.instanceMethod yX6_wordOrName ∈ gTb ∧ Cond.selects yX6_wordOrName.cls yX6_wordOrName yX6_wordOrName ∈ gTb := ⟨g_tb 428 rfl rfl, g_tb 2 rfl rfl⟩
set_option maxRecDepth 100000 in
theorem mf_X6_isWord : gMf yX6_isWord cX6_isWord 3 (some .boolean) 1 := ⟨g_tb 433 rfl (by decide +kernel), g_tb 83 rfl rfl, by decide +kernel, by decide +kernel, by decide +kernel, by decide +kernel, by decide⟩
set_option maxRecDepth 100000 in
theorem im_X6_isWord : Cond.instanceMethod yX6_isWord ∈ gTb ∧ Cond.selects yX6_isWord.cls yX6_isWord yX6_isWord ∈ gTb := ⟨g_tb 432 rfl rfl, g_tb 3 rfl rfl⟩
set_option maxRecDepth 100000 in
theorem mf_X6_behindBlanks : gMf yX6_behindBlanks cX6_behindBlanks 3 (some .int) 2 := ⟨g_tb 401 rfl (by decide +kernel), g_tb 83 rfl rfl, by decide +kernel, by decide +kernel, by decide +kernel, by decide +kernel, by decide⟩
set_option maxRecDepth 100000 in
theorem sm_X6_behindBlanks : Cond.static yX6_behindBlanks ∈ gTb := g_tb 400 rfl rfl
set_option maxRecDepth 100000 in
theorem mf_X6_isBlank : gMf yX6_isBlank cX6_isBlank 1 (some .boolean) 1 := ⟨g_tb 408 rfl (by decide +kernel), g_tb 83 rfl rfl, by decide +kernel, by decide +kernel, by decide +kernel, by decide +kernel, by decide⟩
set_option maxRecDepth 100000 in
theorem sm_X6_isBlank : Cond.static yX6_isBlank ∈ gTb := g_tb 407 rfl rfl
set_option maxRecDepth 100000 in
theorem mf_X6_isDigit : gMf yX6_isDigit cX6_isDigit 1 (some .boolean) 1 := ⟨g_tb 421 rfl (by decide +kernel), g_tb 83 rfl rfl, by decide +kernel, by decide +kernel, by decide +kernel, by decide +kernel, by decide⟩
set_option maxRecDepth 100000 in
theorem sm_X6_isDigit : Cond.static yX6_isDigit ∈ gTb := g_tb 420 rfl rfl
set_option maxRecDepth 100000 in
theorem mf_X6_beginsName : gMf yX6_beginsName cX6_beginsName 1 (some .boolean) 1 := ⟨g_tb 411 rfl (by decide +kernel), g_tb 83 rfl rfl, by decide +kernel, by decide +kernel, by decide +kernel, by decide +kernel, by decide⟩
set_option maxRecDepth 100000 in
theorem sm_X6_beginsName : Cond.static yX6_beginsName ∈ gTb := g_tb 410 rfl rfl
set_option maxRecDepth 100000 in
theorem mf_X6_isInName : gMf yX6_isInName cX6_isInName 1 (some .boolean) 1 := ⟨g_tb 418 rfl (by decide +kernel), g_tb 83 rfl rfl, by decide +kernel, by decide +kernel, by decide +kernel, by decide +kernel, by decide⟩
set_option maxRecDepth 100000 in
theorem sm_X6_isInName : Cond.static yX6_isInName ∈ gTb := g_tb 417 rfl rfl
set_option maxRecDepth 100000 in
theorem mf_X7_init : gMf yX7_init cX7_init 1 none 0 := ⟨g_tb 103 rfl (by decide +kernel), g_tb 77 rfl rfl, by decide +kernel, by decide +kernel, by decide +kernel, by decide +kernel, by decide⟩
set_option maxRecDepth 100000 in
theorem mf_X7_feed : gMf yX7_feed cX7_feed 6 (some .int) 5 := ⟨g_tb 728 rfl (by decide +kernel), g_tb 77 rfl rfl, by decide +kernel, by decide +kernel, by decide +kernel, by decide +kernel, by decide⟩
set_option maxRecDepth 100000 in
theorem im_X7_feed : Cond.instanceMethod yX7_feed ∈ gTb ∧ Cond.selects yX7_feed.cls yX7_feed yX7_feed ∈ gTb := ⟨g_tb 726 rfl rfl, g_tb 727 rfl rfl⟩
set_option maxRecDepth 100000 in
theorem mf_X7_end : gMf yX7_end cX7_end 2 none 1 := ⟨g_tb 811 rfl (by decide +kernel), g_tb 77 rfl rfl, by decide +kernel, by decide +kernel, by decide +kernel, by decide +kernel, by decide⟩
set_option maxRecDepth 100000 in
theorem im_X7_end : Cond.instanceMethod yX7_end ∈ gTb ∧ Cond.selects yX7_end.cls yX7_end yX7_end ∈ gTb := ⟨g_tb 809 rfl rfl, g_tb 810 rfl rfl⟩
set_option maxRecDepth 100000 in
theorem mf_X7_read : gMf yX7_read cX7_read 2 (some .int) 0 := ⟨g_tb 385 rfl (by decide +kernel), g_tb 77 rfl rfl, by decide +kernel, by decide +kernel, by decide +kernel, by decide +kernel, by decide⟩
set_option maxRecDepth 100000 in
theorem im_X7_read : Cond.instanceMethod yX7_read ∈ gTb ∧ Cond.selects yX7_read.cls yX7_read yX7_read ∈ gTb := ⟨g_tb 383 rfl rfl, g_tb 384 rfl rfl⟩
set_option maxRecDepth 100000 in
theorem mf_X7_fault : gMf yX7_fault cX7_fault 1 (some .int) 0 := ⟨g_tb 720 rfl (by decide +kernel), g_tb 77 rfl rfl, by decide +kernel, by decide +kernel, by decide +kernel, by decide +kernel, by decide⟩
set_option maxRecDepth 100000 in
theorem im_X7_fault : Cond.instanceMethod yX7_fault ∈ gTb ∧ Cond.selects yX7_fault.cls yX7_fault yX7_fault ∈ gTb := ⟨g_tb 718 rfl rfl, g_tb 719 rfl rfl⟩
set_option maxRecDepth 100000 in
theorem mf_X7_count : gMf yX7_count cX7_count 2 (some .int) 1 := ⟨g_tb 835 rfl (by decide +kernel), g_tb 77 rfl rfl, by decide +kernel, by decide +kernel, by decide +kernel, by decide +kernel, by decide⟩
set_option maxRecDepth 100000 in
theorem im_X7_count : Cond.instanceMethod yX7_count ∈ gTb ∧ Cond.selects yX7_count.cls yX7_count yX7_count ∈ gTb := ⟨g_tb 833 rfl rfl, g_tb 834 rfl rfl⟩
set_option maxRecDepth 100000 in
theorem mf_X7_scope : gMf yX7_scope cX7_scope 3 (some .int) 2 := ⟨g_tb 867 rfl (by decide +kernel), g_tb 77 rfl rfl, by decide +kernel, by decide +kernel, by decide +kernel, by decide +kernel, by decide⟩
set_option maxRecDepth 100000 in
theorem im_X7_scope : Cond.instanceMethod yX7_scope ∈ gTb ∧ Cond.selects yX7_scope.cls yX7_scope yX7_scope ∈ gTb := ⟨g_tb 865 rfl rfl, g_tb 866 rfl rfl⟩
set_option maxRecDepth 100000 in
theorem mf_X7_declaration : gMf yX7_declaration cX7_declaration 3 (some .int) 2 := ⟨g_tb 883 rfl (by decide +kernel), g_tb 77 rfl rfl, by decide +kernel, by decide +kernel, by decide +kernel, by decide +kernel, by decide⟩
set_option maxRecDepth 100000 in
theorem im_X7_declaration : Cond.instanceMethod yX7_declaration ∈ gTb ∧ Cond.selects yX7_declaration.cls yX7_declaration yX7_declaration ∈ gTb := ⟨g_tb 881 rfl rfl, g_tb 882 rfl rfl⟩
set_option maxRecDepth 100000 in
theorem mf_X7_reference : gMf yX7_reference cX7_reference 3 (some .int) 2 := ⟨g_tb 903 rfl (by decide +kernel), g_tb 77 rfl rfl, by decide +kernel, by decide +kernel, by decide +kernel, by decide +kernel, by decide⟩
set_option maxRecDepth 100000 in
theorem im_X7_reference : Cond.instanceMethod yX7_reference ∈ gTb ∧ Cond.selects yX7_reference.cls yX7_reference yX7_reference ∈ gTb := ⟨g_tb 901 rfl rfl, g_tb 902 rfl rfl⟩
set_option maxRecDepth 100000 in
theorem mf_X7_meant : gMf yX7_meant cX7_meant 6 (some .int) 2 := ⟨g_tb 911 rfl (by decide +kernel), g_tb 77 rfl rfl, by decide +kernel, by decide +kernel, by decide +kernel, by decide +kernel, by decide⟩
set_option maxRecDepth 100000 in
theorem im_X7_meant : Cond.instanceMethod yX7_meant ∈ gTb ∧ Cond.selects yX7_meant.cls yX7_meant yX7_meant ∈ gTb := ⟨g_tb 909 rfl rfl, g_tb 910 rfl rfl⟩
set_option maxRecDepth 100000 in
theorem mf_X7_friends : gMf yX7_friends cX7_friends 3 (some .boolean) 2 := ⟨g_tb 920 rfl (by decide +kernel), g_tb 77 rfl rfl, by decide +kernel, by decide +kernel, by decide +kernel, by decide +kernel, by decide⟩
set_option maxRecDepth 100000 in
theorem im_X7_friends : Cond.instanceMethod yX7_friends ∈ gTb ∧ Cond.selects yX7_friends.cls yX7_friends yX7_friends ∈ gTb := ⟨g_tb 918 rfl rfl, g_tb 919 rfl rfl⟩
set_option maxRecDepth 100000 in
theorem mf_X7_rename : gMf yX7_rename cX7_rename 9 (some .int) 1 := ⟨g_tb 927 rfl (by decide +kernel), g_tb 77 rfl rfl, by decide +kernel, by decide +kernel, by decide +kernel, by decide +kernel, by decide⟩
set_option maxRecDepth 100000 in
theorem im_X7_rename : Cond.instanceMethod yX7_rename ∈ gTb ∧ Cond.selects yX7_rename.cls yX7_rename yX7_rename ∈ gTb := ⟨g_tb 925 rfl rfl, g_tb 926 rfl rfl⟩
set_option maxRecDepth 100000 in
theorem mf_X7_letter : gMf yX7_letter cX7_letter 2 (some .int) 1 := ⟨g_tb 978 rfl (by decide +kernel), g_tb 77 rfl rfl, by decide +kernel, by decide +kernel, by decide +kernel, by decide +kernel, by decide⟩
set_option maxRecDepth 100000 in
theorem im_X7_letter : Cond.instanceMethod yX7_letter ∈ gTb ∧ Cond.selects yX7_letter.cls yX7_letter yX7_letter ∈ gTb := ⟨g_tb 976 rfl rfl, g_tb 977 rfl rfl⟩
set_option maxRecDepth 100000 in
theorem mf_X7_swapTapes : gMf yX7_swapTapes cX7_swapTapes 2 none 0 := ⟨g_tb 665 rfl (by decide +kernel), g_tb 77 rfl rfl, by decide +kernel, by decide +kernel, by decide +kernel, by decide +kernel, by decide⟩
set_option maxRecDepth 100000 in
theorem im_X7_swapTapes : Cond.instanceMethod yX7_swapTapes ∈ gTb ∧ Cond.selects yX7_swapTapes.cls yX7_swapTapes yX7_swapTapes ∈ gTb := ⟨g_tb 664 rfl rfl, g_tb 28 rfl rfl⟩
set_option maxRecDepth 100000 in
theorem mf_X7_writeNewText : gMf yX7_writeNewText cX7_writeNewText 12 none 3 := ⟨g_tb 956 rfl (by decide +kernel), g_tb 77 rfl rfl, by decide +kernel, by decide +kernel, by decide +kernel, by decide +kernel, by decide⟩
set_option maxRecDepth 100000 in
theorem im_X7_writeNewText : Cond.instanceMethod yX7_writeNewText ∈ gTb ∧ Cond.selects yX7_writeNewText.cls yX7_writeNewText yX7_writeNewText ∈ gTb := ⟨g_tb 955 rfl rfl, g_tb 35 rfl rfl⟩
set_option maxRecDepth 100000 in
theorem mf_X7_lowest : gMf yX7_lowest cX7_lowest 2 (some .int) 1 := ⟨g_tb 692 rfl (by decide +kernel), g_tb 77 rfl rfl, by decide +kernel, by decide +kernel, by decide +kernel, by decide +kernel, by decide⟩
set_option maxRecDepth 100000 in
theorem sm_X7_lowest : Cond.static yX7_lowest ∈ gTb := g_tb 691 rfl rfl
set_option maxRecDepth 100000 in
theorem mf_X7_nameByte : gMf yX7_nameByte cX7_nameByte 5 (some .int) 3 := ⟨g_tb 477 rfl (by decide +kernel), g_tb 77 rfl rfl, by decide +kernel, by decide +kernel, by decide +kernel, by decide +kernel, by decide⟩
set_option maxRecDepth 100000 in
theorem sm_X7_nameByte : Cond.static yX7_nameByte ∈ gTb := g_tb 476 rfl rfl
set_option maxRecDepth 100000 in
theorem mf_X8_init : gMf yX8_init cX8_init 1 none 0 := ⟨g_tb 984 rfl (by decide +kernel), g_tb 85 rfl rfl, by decide +kernel, by decide +kernel, by decide +kernel, by decide +kernel, by decide⟩
set_option maxRecDepth 100000 in
theorem mf_X8_thrown : gMf yX8_thrown cX8_thrown 1 (some .int) 0 := ⟨g_tb 1213 rfl (by decide +kernel), g_tb 85 rfl rfl, by decide +kernel, by decide +kernel, by decide +kernel, by decide +kernel, by decide⟩
set_option maxRecDepth 100000 in
theorem im_X8_thrown : Cond.instanceMethod yX8_thrown ∈ gTb ∧ Cond.selects yX8_thrown.cls yX8_thrown yX8_thrown ∈ gTb := ⟨g_tb 1211 rfl rfl, g_tb 1212 rfl rfl⟩
set_option maxRecDepth 100000 in
theorem mf_X8_fails : gMf yX8_fails cX8_fails 2 (some .boolean) 1 := ⟨g_tb 1221 rfl (by decide +kernel), g_tb 85 rfl rfl, by decide +kernel, by decide +kernel, by decide +kernel, by decide +kernel, by decide⟩
set_option maxRecDepth 100000 in
theorem im_X8_fails : Cond.instanceMethod yX8_fails ∈ gTb ∧ Cond.selects yX8_fails.cls yX8_fails yX8_fails ∈ gTb := ⟨g_tb 1220 rfl rfl, g_tb 36 rfl rfl⟩
set_option maxRecDepth 100000 in
theorem mf_X8_feed : gMf yX8_feed cX8_feed 6 (some .int) 5 := ⟨g_tb 1217 rfl (by decide +kernel), g_tb 85 rfl rfl, by decide +kernel, by decide +kernel, by decide +kernel, by decide +kernel, by decide⟩
set_option maxRecDepth 100000 in
theorem im_X8_feed : Cond.instanceMethod yX8_feed ∈ gTb ∧ Cond.selects yX8_feed.cls yX8_feed yX8_feed ∈ gTb := ⟨g_tb 1215 rfl rfl, g_tb 1216 rfl rfl⟩
set_option maxRecDepth 100000 in
theorem mf_X8_four : gMf yX8_four cX8_four 3 none 1 := ⟨g_tb 1225 rfl (by decide +kernel), g_tb 85 rfl rfl, by decide +kernel, by decide +kernel, by decide +kernel, by decide +kernel, by decide⟩
set_option maxRecDepth 100000 in
theorem im_X8_four : Cond.instanceMethod yX8_four ∈ gTb ∧ Cond.selects yX8_four.cls yX8_four yX8_four ∈ gTb := ⟨g_tb 1224 rfl rfl, g_tb 37 rfl rfl⟩
set_option maxRecDepth 100000 in
theorem mf_X8_end : gMf yX8_end cX8_end 2 none 1 := ⟨g_tb 1229 rfl (by decide +kernel), g_tb 85 rfl rfl, by decide +kernel, by decide +kernel, by decide +kernel, by decide +kernel, by decide⟩
set_option maxRecDepth 100000 in
theorem im_X8_end : Cond.instanceMethod yX8_end ∈ gTb ∧ Cond.selects yX8_end.cls yX8_end yX8_end ∈ gTb := ⟨g_tb 1227 rfl rfl, g_tb 1228 rfl rfl⟩
set_option maxRecDepth 100000 in
theorem mf_X8_blame : gMf yX8_blame cX8_blame 3 (some .boolean) 2 := ⟨g_tb 1263 rfl (by decide +kernel), g_tb 85 rfl rfl, by decide +kernel, by decide +kernel, by decide +kernel, by decide +kernel, by decide⟩
set_option maxRecDepth 100000 in
theorem im_X8_blame : Cond.instanceMethod yX8_blame ∈ gTb ∧ Cond.selects yX8_blame.cls yX8_blame yX8_blame ∈ gTb := ⟨g_tb 1262 rfl rfl, g_tb 43 rfl rfl⟩
set_option maxRecDepth 100000 in
theorem mf_X8_isLetter : gMf yX8_isLetter cX8_isLetter 1 (some .boolean) 1 := ⟨g_tb 1252 rfl (by decide +kernel), g_tb 85 rfl rfl, by decide +kernel, by decide +kernel, by decide +kernel, by decide +kernel, by decide⟩
set_option maxRecDepth 100000 in
theorem sm_X8_isLetter : Cond.static yX8_isLetter ∈ gTb := g_tb 1251 rfl rfl
set_option maxRecDepth 100000 in
theorem mf_X8_isDigit : gMf yX8_isDigit cX8_isDigit 1 (some .boolean) 1 := ⟨g_tb 1255 rfl (by decide +kernel), g_tb 85 rfl rfl, by decide +kernel, by decide +kernel, by decide +kernel, by decide +kernel, by decide⟩
set_option maxRecDepth 100000 in
theorem sm_X8_isDigit : Cond.static yX8_isDigit ∈ gTb := g_tb 1254 rfl rfl
set_option maxRecDepth 100000 in
theorem mf_X8_byteAt : gMf yX8_byteAt cX8_byteAt 2 (some .int) 1 := ⟨g_tb 1249 rfl (by decide +kernel), g_tb 85 rfl rfl, by decide +kernel, by decide +kernel, by decide +kernel, by decide +kernel, by decide⟩
set_option maxRecDepth 100000 in
theorem im_X8_byteAt : Cond.instanceMethod yX8_byteAt ∈ gTb ∧ Cond.selects yX8_byteAt.cls yX8_byteAt yX8_byteAt ∈ gTb := ⟨g_tb 1248 rfl rfl, g_tb 41 rfl rfl⟩
set_option maxRecDepth 100000 in
theorem mf_X8_wordOf : gMf yX8_wordOf cX8_wordOf 8 (some .int) 3 := ⟨g_tb 1259 rfl (by decide +kernel), g_tb 85 rfl rfl, by decide +kernel, by decide +kernel, by decide +kernel, by decide +kernel, by decide⟩
set_option maxRecDepth 100000 in
theorem im_X8_wordOf : Cond.instanceMethod yX8_wordOf ∈ gTb ∧ Cond.selects yX8_wordOf.cls yX8_wordOf yX8_wordOf ∈ gTb := ⟨g_tb 1258 rfl rfl, g_tb 42 rfl rfl⟩
set_option maxRecDepth 100000 in
theorem mf_X8_next : gMf yX8_next cX8_next 2 (some .boolean) 0 := ⟨g_tb 1245 rfl (by decide +kernel), g_tb 85 rfl rfl, by decide +kernel, by decide +kernel, by decide +kernel, by decide +kernel, by decide⟩
set_option maxRecDepth 100000 in
theorem im_X8_next : Cond.instanceMethod yX8_next ∈ gTb ∧ Cond.selects yX8_next.cls yX8_next yX8_next ∈ gTb := ⟨g_tb 1244 rfl rfl, g_tb 40 rfl rfl⟩
set_option maxRecDepth 100000 in
theorem mf_X8_is : gMf yX8_is cX8_is 2 (some .boolean) 1 := ⟨g_tb 1283 rfl (by decide +kernel), g_tb 85 rfl rfl, by decide +kernel, by decide +kernel, by decide +kernel, by decide +kernel, by decide⟩
set_option maxRecDepth 100000 in
theorem im_X8_is : Cond.instanceMethod yX8_is ∈ gTb ∧ Cond.selects yX8_is.cls yX8_is yX8_is ∈ gTb := ⟨g_tb 1282 rfl rfl, g_tb 48 rfl rfl⟩
set_option maxRecDepth 100000 in
theorem mf_X8_newScope : gMf yX8_newScope cX8_newScope 4 (some .boolean) 3 := ⟨g_tb 1279 rfl (by decide +kernel), g_tb 85 rfl rfl, by decide +kernel, by decide +kernel, by decide +kernel, by decide +kernel, by decide⟩
set_option maxRecDepth 100000 in
theorem im_X8_newScope : Cond.instanceMethod yX8_newScope ∈ gTb ∧ Cond.selects yX8_newScope.cls yX8_newScope yX8_newScope ∈ gTb := ⟨g_tb 1278 rfl rfl, g_tb 47 rfl rfl⟩
set_option maxRecDepth 100000 in
theorem mf_X8_declare : gMf yX8_declare cX8_declare 3 (some .boolean) 2 := ⟨g_tb 1275 rfl (by decide +kernel), g_tb 85 rfl rfl, by decide +kernel, by decide +kernel, by decide +kernel, by decide +kernel, by decide⟩
set_option maxRecDepth 100000 in
theorem im_X8_declare : Cond.instanceMethod yX8_declare ∈ gTb ∧ Cond.selects yX8_declare.cls yX8_declare yX8_declare ∈ gTb := ⟨g_tb 1274 rfl rfl, g_tb 46 rfl rfl⟩
set_option maxRecDepth 100000 in
theorem mf_X8_bracket : gMf yX8_bracket cX8_bracket 1 (some .boolean) 0 := ⟨g_tb 1287 rfl (by decide +kernel), g_tb 85 rfl rfl, by decide +kernel, by decide +kernel, by decide +kernel, by decide +kernel, by decide⟩
set_option maxRecDepth 100000 in
theorem im_X8_bracket : Cond.instanceMethod yX8_bracket ∈ gTb ∧ Cond.selects yX8_bracket.cls yX8_bracket yX8_bracket ∈ gTb := ⟨g_tb 1286 rfl rfl, g_tb 49 rfl rfl⟩
set_option maxRecDepth 100000 in
theorem mf_X8_open : gMf yX8_open cX8_open 2 none 1 := ⟨g_tb 1291 rfl (by decide +kernel), g_tb 85 rfl rfl, by decide +kernel, by decide +kernel, by decide +kernel, by decide +kernel, by decide⟩
set_option maxRecDepth 100000 in
theorem im_X8_open : Cond.instanceMethod yX8_open ∈ gTb ∧ Cond.selects yX8_open.cls yX8_open yX8_open ∈ gTb := ⟨g_tb 1290 rfl rfl, g_tb 50 rfl rfl⟩
set_option maxRecDepth 100000 in
theorem mf_X8_odd : gMf yX8_odd cX8_odd 1 (some .boolean) 0 := ⟨g_tb 1271 rfl (by decide +kernel), g_tb 85 rfl rfl, by decide +kernel, by decide +kernel, by decide +kernel, by decide +kernel, by decide⟩
set_option maxRecDepth 100000 in
theorem im_X8_odd : Cond.instanceMethod yX8_odd ∈ gTb ∧ Cond.selects yX8_odd.cls yX8_odd yX8_odd ∈ gTb := ⟨g_tb 1270 rfl rfl, g_tb 45 rfl rfl⟩
set_option maxRecDepth 100000 in
theorem mf_X8_readAll : gMf yX8_readAll cX8_readAll 2 (some .boolean) 0 := ⟨g_tb 1241 rfl (by decide +kernel), g_tb 85 rfl rfl, by decide +kernel, by decide +kernel, by decide +kernel, by decide +kernel, by decide⟩
set_option maxRecDepth 100000 in
theorem im_X8_readAll : Cond.instanceMethod yX8_readAll ∈ gTb ∧ Cond.selects yX8_readAll.cls yX8_readAll yX8_readAll ∈ gTb := ⟨g_tb 1240 rfl rfl, g_tb 39 rfl rfl⟩
set_option maxRecDepth 100000 in
theorem mf_X8_dec : gMf yX8_dec cX8_dec 1 (some .boolean) 0 := ⟨g_tb 1267 rfl (by decide +kernel), g_tb 85 rfl rfl, by decide +kernel, by decide +kernel, by decide +kernel, by decide +kernel, by decide⟩
set_option maxRecDepth 100000 in
theorem im_X8_dec : Cond.instanceMethod yX8_dec ∈ gTb ∧ Cond.selects yX8_dec.cls yX8_dec yX8_dec ∈ gTb := ⟨g_tb 1266 rfl rfl, g_tb 44 rfl rfl⟩
set_option maxRecDepth 100000 in
theorem mf_X8_readLong : gMf yX8_readLong cX8_readLong 3 (some .boolean) 0 := ⟨g_tb 1295 rfl (by decide +kernel), g_tb 85 rfl rfl, by decide +kernel, by decide +kernel, by decide +kernel, by decide +kernel, by decide⟩
set_option maxRecDepth 100000 in
theorem im_X8_readLong : Cond.instanceMethod yX8_readLong ∈ gTb ∧ Cond.selects yX8_readLong.cls yX8_readLong yX8_readLong ∈ gTb := ⟨g_tb 1294 rfl rfl, g_tb 51 rfl rfl⟩
set_option maxRecDepth 100000 in
theorem mf_X8_exp : gMf yX8_exp cX8_exp 1 (some .boolean) 0 := ⟨g_tb 1299 rfl (by decide +kernel), g_tb 85 rfl rfl, by decide +kernel, by decide +kernel, by decide +kernel, by decide +kernel, by decide⟩
set_option maxRecDepth 100000 in
theorem im_X8_exp : Cond.instanceMethod yX8_exp ∈ gTb ∧ Cond.selects yX8_exp.cls yX8_exp yX8_exp ∈ gTb := ⟨g_tb 1298 rfl rfl, g_tb 52 rfl rfl⟩
set_option maxRecDepth 100000 in
theorem mf_X8_fun : gMf yX8_fun cX8_fun 2 (some .boolean) 0 := ⟨g_tb 1303 rfl (by decide +kernel), g_tb 85 rfl rfl, by decide +kernel, by decide +kernel, by decide +kernel, by decide +kernel, by decide⟩
set_option maxRecDepth 100000 in
theorem im_X8_fun : Cond.instanceMethod yX8_fun ∈ gTb ∧ Cond.selects yX8_fun.cls yX8_fun yX8_fun ∈ gTb := ⟨g_tb 1302 rfl rfl, g_tb 53 rfl rfl⟩
set_option maxRecDepth 100000 in
theorem mf_X8_body : gMf yX8_body cX8_body 2 (some .boolean) 1 := ⟨g_tb 1307 rfl (by decide +kernel), g_tb 85 rfl rfl, by decide +kernel, by decide +kernel, by decide +kernel, by decide +kernel, by decide⟩
set_option maxRecDepth 100000 in
theorem im_X8_body : Cond.instanceMethod yX8_body ∈ gTb ∧ Cond.selects yX8_body.cls yX8_body yX8_body ∈ gTb := ⟨g_tb 1306 rfl rfl, g_tb 54 rfl rfl⟩
set_option maxRecDepth 100000 in
theorem mf_X8_binds : gMf yX8_binds cX8_binds 2 (some .boolean) 0 := ⟨g_tb 1311 rfl (by decide +kernel), g_tb 85 rfl rfl, by decide +kernel, by decide +kernel, by decide +kernel, by decide +kernel, by decide⟩
set_option maxRecDepth 100000 in
theorem im_X8_binds : Cond.instanceMethod yX8_binds ∈ gTb ∧ Cond.selects yX8_binds.cls yX8_binds yX8_binds ∈ gTb := ⟨g_tb 1310 rfl rfl, g_tb 55 rfl rfl⟩
set_option maxRecDepth 100000 in
theorem mf_X8_bind : gMf yX8_bind cX8_bind 2 (some .boolean) 0 := ⟨g_tb 1315 rfl (by decide +kernel), g_tb 85 rfl rfl, by decide +kernel, by decide +kernel, by decide +kernel, by decide +kernel, by decide⟩
set_option maxRecDepth 100000 in
theorem im_X8_bind : Cond.instanceMethod yX8_bind ∈ gTb ∧ Cond.selects yX8_bind.cls yX8_bind yX8_bind ∈ gTb := ⟨g_tb 1314 rfl rfl, g_tb 56 rfl rfl⟩
set_option maxRecDepth 100000 in
theorem mf_X8_ends : gMf yX8_ends cX8_ends 2 (some .boolean) 0 := ⟨g_tb 1319 rfl (by decide +kernel), g_tb 85 rfl rfl, by decide +kernel, by decide +kernel, by decide +kernel, by decide +kernel, by decide⟩
set_option maxRecDepth 100000 in
theorem im_X8_ends : Cond.instanceMethod yX8_ends ∈ gTb ∧ Cond.selects yX8_ends.cls yX8_ends yX8_ends ∈ gTb := ⟨g_tb 1318 rfl rfl, g_tb 57 rfl rfl⟩
set_option maxRecDepth 100000 in
theorem mf_X8_keep : gMf yX8_keep cX8_keep 2 none 0 := ⟨g_tb 1237 rfl (by decide +kernel), g_tb 85 rfl rfl, by decide +kernel, by decide +kernel, by decide +kernel, by decide +kernel, by decide⟩
set_option maxRecDepth 100000 in
theorem im_X8_keep : Cond.instanceMethod yX8_keep ∈ gTb ∧ Cond.selects yX8_keep.cls yX8_keep yX8_keep ∈ gTb := ⟨g_tb 1236 rfl rfl, g_tb 38 rfl rfl⟩
set_option maxRecDepth 100000 in
theorem mf_X8_giveBack : gMf yX8_giveBack cX8_giveBack 2 none 0 := ⟨g_tb 1323 rfl (by decide +kernel), g_tb 85 rfl rfl, by decide +kernel, by decide +kernel, by decide +kernel, by decide +kernel, by decide⟩
set_option maxRecDepth 100000 in
theorem im_X8_giveBack : Cond.instanceMethod yX8_giveBack ∈ gTb ∧ Cond.selects yX8_giveBack.cls yX8_giveBack yX8_giveBack ∈ gTb := ⟨g_tb 1322 rfl rfl, g_tb 58 rfl rfl⟩
set_option maxRecDepth 100000 in
theorem mf_X8_read : gMf yX8_read cX8_read 2 (some .int) 0 := ⟨g_tb 1233 rfl (by decide +kernel), g_tb 85 rfl rfl, by decide +kernel, by decide +kernel, by decide +kernel, by decide +kernel, by decide⟩
set_option maxRecDepth 100000 in
theorem im_X8_read : Cond.instanceMethod yX8_read ∈ gTb ∧ Cond.selects yX8_read.cls yX8_read yX8_read ∈ gTb := ⟨g_tb 1231 rfl rfl, g_tb 1232 rfl rfl⟩
set_option maxRecDepth 100000 in
theorem mf_X8_takeText : gMf yX8_takeText cX8_takeText 2 none 0 := ⟨g_tb 1327 rfl (by decide +kernel), g_tb 85 rfl rfl, by decide +kernel, by decide +kernel, by decide +kernel, by decide +kernel, by decide⟩
set_option maxRecDepth 100000 in
theorem im_X8_takeText : Cond.instanceMethod yX8_takeText ∈ gTb ∧ Cond.selects yX8_takeText.cls yX8_takeText yX8_takeText ∈ gTb := ⟨g_tb 1326 rfl rfl, g_tb 59 rfl rfl⟩
set_option maxRecDepth 100000 in
theorem mf_X8_fault : gMf yX8_fault cX8_fault 1 (some .int) 0 := ⟨g_tb 1383 rfl (by decide +kernel), g_tb 85 rfl rfl, by decide +kernel, by decide +kernel, by decide +kernel, by decide +kernel, by decide⟩
set_option maxRecDepth 100000 in
theorem im_X8_fault : Cond.instanceMethod yX8_fault ∈ gTb ∧ Cond.selects yX8_fault.cls yX8_fault yX8_fault ∈ gTb := ⟨g_tb 1381 rfl rfl, g_tb 1382 rfl rfl⟩
set_option maxRecDepth 100000 in
theorem mf_X8_isSame : gMf yX8_isSame cX8_isSame 7 (some .boolean) 4 := ⟨g_tb 1339 rfl (by decide +kernel), g_tb 85 rfl rfl, by decide +kernel, by decide +kernel, by decide +kernel, by decide +kernel, by decide⟩
set_option maxRecDepth 100000 in
theorem im_X8_isSame : Cond.instanceMethod yX8_isSame ∈ gTb ∧ Cond.selects yX8_isSame.cls yX8_isSame yX8_isSame ∈ gTb := ⟨g_tb 1338 rfl rfl, g_tb 62 rfl rfl⟩
set_option maxRecDepth 100000 in
theorem mf_X8_nameAt : gMf yX8_nameAt cX8_nameAt 4 (some .int) 2 := ⟨g_tb 1335 rfl (by decide +kernel), g_tb 85 rfl rfl, by decide +kernel, by decide +kernel, by decide +kernel, by decide +kernel, by decide⟩
set_option maxRecDepth 100000 in
theorem im_X8_nameAt : Cond.instanceMethod yX8_nameAt ∈ gTb ∧ Cond.selects yX8_nameAt.cls yX8_nameAt yX8_nameAt ∈ gTb := ⟨g_tb 1334 rfl rfl, g_tb 61 rfl rfl⟩
set_option maxRecDepth 100000 in
theorem mf_X8_nameAll : gMf yX8_nameAll cX8_nameAll 2 none 0 := ⟨g_tb 1331 rfl (by decide +kernel), g_tb 85 rfl rfl, by decide +kernel, by decide +kernel, by decide +kernel, by decide +kernel, by decide⟩
set_option maxRecDepth 100000 in
theorem im_X8_nameAll : Cond.instanceMethod yX8_nameAll ∈ gTb ∧ Cond.selects yX8_nameAll.cls yX8_nameAll yX8_nameAll ∈ gTb := ⟨g_tb 1330 rfl rfl, g_tb 60 rfl rfl⟩
set_option maxRecDepth 100000 in
theorem mf_X8_ask : gMf yX8_ask cX8_ask 10 none 6 := ⟨g_tb 1355 rfl (by decide +kernel), g_tb 85 rfl rfl, by decide +kernel, by decide +kernel, by decide +kernel, by decide +kernel, by decide⟩
set_option maxRecDepth 100000 in
theorem im_X8_ask : Cond.instanceMethod yX8_ask ∈ gTb ∧ Cond.selects yX8_ask.cls yX8_ask yX8_ask ∈ gTb := ⟨g_tb 1354 rfl rfl, g_tb 66 rfl rfl⟩
set_option maxRecDepth 100000 in
theorem mf_X8_says : gMf yX8_says cX8_says 3 none 1 := ⟨g_tb 1370 rfl (by decide +kernel), g_tb 85 rfl rfl, by decide +kernel, by decide +kernel, by decide +kernel, by decide +kernel, by decide⟩
set_option maxRecDepth 100000 in
theorem im_X8_says : Cond.instanceMethod yX8_says ∈ gTb ∧ Cond.selects yX8_says.cls yX8_says yX8_says ∈ gTb := ⟨g_tb 1369 rfl rfl, g_tb 69 rfl rfl⟩
set_option maxRecDepth 100000 in
theorem mf_X8_here : gMf yX8_here cX8_here 6 (some .long) 2 := ⟨g_tb 1366 rfl (by decide +kernel), g_tb 85 rfl rfl, by decide +kernel, by decide +kernel, by decide +kernel, by decide +kernel, by decide⟩
set_option maxRecDepth 100000 in
theorem im_X8_here : Cond.instanceMethod yX8_here ∈ gTb ∧ Cond.selects yX8_here.cls yX8_here yX8_here ∈ gTb := ⟨g_tb 1365 rfl rfl, g_tb 68 rfl rfl⟩
set_option maxRecDepth 100000 in
theorem mf_X8_has : gMf yX8_has cX8_has 3 (some .boolean) 2 := ⟨g_tb 1362 rfl (by decide +kernel), g_tb 85 rfl rfl, by decide +kernel, by decide +kernel, by decide +kernel, by decide +kernel, by decide⟩
set_option maxRecDepth 100000 in
theorem sm_X8_has : Cond.static yX8_has ∈ gTb := g_tb 1361 rfl rfl
set_option maxRecDepth 100000 in
theorem mf_X8_mean : gMf yX8_mean cX8_mean 3 none 1 := ⟨g_tb 1347 rfl (by decide +kernel), g_tb 85 rfl rfl, by decide +kernel, by decide +kernel, by decide +kernel, by decide +kernel, by decide⟩
set_option maxRecDepth 100000 in
theorem im_X8_mean : Cond.instanceMethod yX8_mean ∈ gTb ∧ Cond.selects yX8_mean.cls yX8_mean yX8_mean ∈ gTb := ⟨g_tb 1346 rfl rfl, g_tb 64 rfl rfl⟩
set_option maxRecDepth 100000 in
theorem mf_X8_askMeans : gMf yX8_askMeans cX8_askMeans 6 none 3 := ⟨g_tb 1351 rfl (by decide +kernel), g_tb 85 rfl rfl, by decide +kernel, by decide +kernel, by decide +kernel, by decide +kernel, by decide⟩
set_option maxRecDepth 100000 in
theorem im_X8_askMeans : Cond.instanceMethod yX8_askMeans ∈ gTb ∧ Cond.selects yX8_askMeans.cls yX8_askMeans yX8_askMeans ∈ gTb := ⟨g_tb 1350 rfl rfl, g_tb 65 rfl rfl⟩
set_option maxRecDepth 100000 in
theorem mf_X8_visible : gMf yX8_visible cX8_visible 6 none 1 := ⟨g_tb 1359 rfl (by decide +kernel), g_tb 85 rfl rfl, by decide +kernel, by decide +kernel, by decide +kernel, by decide +kernel, by decide⟩
set_option maxRecDepth 100000 in
theorem im_X8_visible : Cond.instanceMethod yX8_visible ∈ gTb ∧ Cond.selects yX8_visible.cls yX8_visible yX8_visible ∈ gTb := ⟨g_tb 1358 rfl rfl, g_tb 67 rfl rfl⟩
set_option maxRecDepth 100000 in
theorem mf_X8_local : gMf yX8_local cX8_local 5 none 1 := ⟨g_tb 1379 rfl (by decide +kernel), g_tb 85 rfl rfl, by decide +kernel, by decide +kernel, by decide +kernel, by decide +kernel, by decide⟩
set_option maxRecDepth 100000 in
theorem im_X8_local : Cond.instanceMethod yX8_local ∈ gTb ∧ Cond.selects yX8_local.cls yX8_local yX8_local ∈ gTb := ⟨g_tb 1378 rfl rfl, g_tb 71 rfl rfl⟩
set_option maxRecDepth 100000 in
theorem mf_X8_imports : gMf yX8_imports cX8_imports 4 none 1 := ⟨g_tb 1374 rfl (by decide +kernel), g_tb 85 rfl rfl, by decide +kernel, by decide +kernel, by decide +kernel, by decide +kernel, by decide⟩
set_option maxRecDepth 100000 in
theorem im_X8_imports : Cond.instanceMethod yX8_imports ∈ gTb ∧ Cond.selects yX8_imports.cls yX8_imports yX8_imports ∈ gTb := ⟨g_tb 1373 rfl rfl, g_tb 70 rfl rfl⟩
set_option maxRecDepth 100000 in
theorem mf_X8_meanAll : gMf yX8_meanAll cX8_meanAll 2 none 0 := ⟨g_tb 1343 rfl (by decide +kernel), g_tb 85 rfl rfl, by decide +kernel, by decide +kernel, by decide +kernel, by decide +kernel, by decide⟩
set_option maxRecDepth 100000 in
theorem im_X8_meanAll : Cond.instanceMethod yX8_meanAll ∈ gTb ∧ Cond.selects yX8_meanAll.cls yX8_meanAll yX8_meanAll ∈ gTb := ⟨g_tb 1342 rfl rfl, g_tb 63 rfl rfl⟩
set_option maxRecDepth 100000 in
theorem mf_X8_many : gMf yX8_many cX8_many 4 (some .int) 1 := ⟨g_tb 1390 rfl (by decide +kernel), g_tb 85 rfl rfl, by decide +kernel, by decide +kernel, by decide +kernel, by decide +kernel, by decide⟩
set_option maxRecDepth 100000 in
theorem sm_X8_many : Cond.static yX8_many ∈ gTb := g_tb 1389 rfl rfl
set_option maxRecDepth 100000 in
theorem mf_X8_count : gMf yX8_count cX8_count 4 (some .int) 1 := ⟨g_tb 1387 rfl (by decide +kernel), g_tb 85 rfl rfl, by decide +kernel, by decide +kernel, by decide +kernel, by decide +kernel, by decide⟩
set_option maxRecDepth 100000 in
theorem im_X8_count : Cond.instanceMethod yX8_count ∈ gTb ∧ Cond.selects yX8_count.cls yX8_count yX8_count ∈ gTb := ⟨g_tb 1385 rfl rfl, g_tb 1386 rfl rfl⟩
set_option maxRecDepth 100000 in
theorem mf_X8_scope : gMf yX8_scope cX8_scope 5 (some .int) 2 := ⟨g_tb 1394 rfl (by decide +kernel), g_tb 85 rfl rfl, by decide +kernel, by decide +kernel, by decide +kernel, by decide +kernel, by decide⟩
