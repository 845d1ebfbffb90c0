def f_X3_takeImportEnd (sh : List gS) (F : Nat) (x0 : Nat) (m : gM) : Option (Int32 × gM) :=
  g_if (oB sh x0 3) ((m.2.2 x0 4).bind (fun t2 => g_if (oB sh t2 2) ((f_X2_importFrom sh F t2 (m.1 x0 9) (m.1 x0 7) m).bind (fun m4 => (f_X3_popTo sh F x0 0 m4).bind (fun q8 => nm q8.1 (fun r7 => nm q8.2 (fun m6 => some (r7, m6))))))))
set_option maxRecDepth 100000 in
set_option maxHeartbeats 4000000 in
theorem tf_X3_takeImportEnd {X : gX} {w : gW} {rr : Int32} {rm : gM} (C : gC X w K_X3_takeImportEnd 1 RX3 2) (hr : X.2.2.2.2.2.2.2.2.1.sig.returnType = (some .int)) {F : Nat} {x0 : Nat} {m : gM} (h : f_X3_takeImportEnd w.2.2.2.2.1 F x0 m = some (rr, rm)) : gV X w 0 0 (gR X w (some (.int rr)) rm) 1 0 [(0, .ref x0)] [] m := by
  unfold f_X3_takeImportEnd at h
  refine v_aload_n (pc := 0) C 0 0 rfl rfl rfl ?_
  obtain ⟨o1, h⟩ := g_okk h
  obtain ⟨t2, qt2, h⟩ := g_bd h
  refine v_getR (pc := 1) C 1 rfl lf_ScopeGraph_Reader_28.get (g_oB o1) rfl qt2 ?_
  refine v_aload_n (pc := 4) C 2 0 rfl rfl rfl ?_
  refine v_getI (pc := 5) C 3 rfl lf_ScopeGraph_Reader_156.get (g_oB o1) rfl ?_
  refine v_aload_n (pc := 8) C 4 0 rfl rfl rfl ?_
  refine v_getI (pc := 9) C 5 rfl lf_ScopeGraph_Reader_47.get (g_oB o1) rfl ?_
  obtain ⟨o3, h⟩ := g_okk h
  obtain ⟨m4, qm4, h⟩ := g_bd h
  refine v_callV (pc := 12) C 6 rfl mf_X2_importFrom clX2 rfl im_X2_importFrom lm_ScopeGraph_Reader_159 (c_X2_importFrom C.2.2.2.2.2.2.2.2.2.2.2 qm4) (by decide) rfl (g_oB o3) (Nat.le_of_ble_eq_true rfl) ⟨Nat.zero_le _, Nat.zero_le _⟩ rfl ?_
  change gV X w 0 0 (gR X w (some (.int rr)) rm) 1 15 [(0, .ref x0)] [] m4
  refine v_aload_n (pc := 15) C 7 0 rfl rfl rfl ?_
  refine v_iconst (pc := 16) C 8 0 rfl (by decide) ?_
  obtain ⟨⟨r7, m6⟩, qm6, h⟩ := g_bd h
  replace h := g_nm (y := m6) (g_nm (y := r7) h rfl) rfl
  refine v_callV (pc := 17) C 9 rfl mf_X3_popTo clX3 rfl im_X3_popTo lm_ScopeGraph_Reader_109 (c_X3_popTo C.2.2.2.2.2.2.2.2.2.2.2 qm6) (by decide) rfl (g_oB o1) (Nat.le_of_ble_eq_true rfl) ⟨Nat.zero_le _, Nat.zero_le _⟩ rfl ?_
  change gV X w 0 0 (gR X w (some (.int rr)) rm) 1 20 [(0, .ref x0)] [.int r7] m6
  obtain ⟨rfl, rfl⟩ := g_so h
  exact v_iret (pc := 20) C 10 rfl hr
theorem c_X3_takeImportEnd {l : Launch} {w : gW} {rr : Int32} {rm : gM} (hJ : gJok w) {F : Nat} {x0 : Nat} {m : gM} (h : f_X3_takeImportEnd w.2.2.2.2.1 F x0 m = some (rr, rm)) : gMet l 2 yX3_takeImportEnd cX3_takeImportEnd 1 (some .int) w [.ref x0] m (some (.int rr)) rm :=
  gMet.of hJ mf_X3_takeImportEnd dk_X3_takeImportEnd (Nat.le_of_ble_eq_true rfl) (fun X _ C hr => tf_X3_takeImportEnd (F := F) C hr h)
def f_X3_setTop (sh : List gS) (F : Nat) (x0 : Nat) (x1 : Int32) (x2 : Int32) (m : gM) : Option (gM) :=
  g_if (oB sh x0 3) (if (m.1 x0 5) ≤ 0 then (some m) else ((m.2.2 x0 1).bind (fun t3 => g_if (aB sh t3 .int ((m.1 x0 5) - (1 : Int32))) (nm (gsI m t3 ((m.1 x0 5) - (1 : Int32)).toNatClampNeg x1) (fun m5 => (m5.2.2 x0 3).bind (fun t6 => g_if (aB sh t6 .int ((m5.1 x0 5) - (1 : Int32))) (nm (gsI m5 t6 ((m5.1 x0 5) - (1 : Int32)).toNatClampNeg x2) (fun m8 => some m8))))))))
set_option maxRecDepth 100000 in
set_option maxHeartbeats 4000000 in
theorem tf_X3_setTop {X : gX} {w : gW} {rm : gM} (C : gC X w K_X3_setTop 3 RX3 0) (hr : X.2.2.2.2.2.2.2.2.1.sig.returnType = none) {F : Nat} {x0 : Nat} {x1 : Int32} {x2 : Int32} {m : gM} (h : f_X3_setTop w.2.2.2.2.1 F x0 x1 x2 m = some rm) : gV X w 0 0 (gR X w none rm) 3 0 [(0, .ref x0), (1, .int x1), (2, .int x2)] [] m := by
  unfold f_X3_setTop at h
  refine v_aload_n (pc := 0) C 0 0 rfl rfl rfl ?_
  obtain ⟨o1, h⟩ := g_okk h
  refine v_getI (pc := 1) C 1 rfl lf_ScopeGraph_Reader_40.get (g_oB o1) rfl ?_
  refine v_if_le (pc := 4) C 2 31 rfl (by decide) (fun c2 => ?_) (fun c2 => ?_)
  · replace h := g_ifT c2 h
    cases g_s1' h
    exact v_vret (pc := 31) C 19 rfl hr
  · replace h := g_ifF c2 h
    refine v_aload_n (pc := 7) C 3 0 rfl rfl rfl ?_
    obtain ⟨t3, qt3, h⟩ := g_bd h
    refine v_getR (pc := 8) C 4 rfl lf_ScopeGraph_Reader_18 (g_oB o1) rfl qt3 ?_
    refine v_aload_n (pc := 11) C 5 0 rfl rfl rfl ?_
    refine v_getI (pc := 12) C 6 rfl lf_ScopeGraph_Reader_40.get (g_oB o1) rfl ?_
    refine v_iconst (pc := 15) C 7 1 rfl (by decide) ?_
    refine v_isub (pc := 16) C 8 rfl ?_
    refine v_iload_n (pc := 17) C 9 1 rfl rfl rfl ?_
    obtain ⟨b4, h⟩ := g_okk h
    refine v_iast' (pc := 18) C 10 rfl b4 ?_
    refine v_topM (fun m5 em5 => ?_)
    replace h := g_nm h em5
    refine v_aload_n (pc := 19) C 11 0 rfl rfl rfl ?_
    obtain ⟨t6, qt6, h⟩ := g_bd h
    refine v_getR (pc := 20) C 12 rfl lf_ScopeGraph_Reader_25 (g_oB o1) rfl qt6 ?_
    refine v_aload_n (pc := 23) C 13 0 rfl rfl rfl ?_
    refine v_getI (pc := 24) C 14 rfl lf_ScopeGraph_Reader_40.get (g_oB o1) rfl ?_
    refine v_iconst (pc := 27) C 15 1 rfl (by decide) ?_
    refine v_isub (pc := 28) C 16 rfl ?_
    refine v_iload_n (pc := 29) C 17 2 rfl rfl rfl ?_
    obtain ⟨b7, h⟩ := g_okk h
    refine v_iast' (pc := 30) C 18 rfl b7 ?_
    refine v_topM (fun m8 em8 => ?_)
    replace h := g_nm h em8
    cases g_s1' h
    exact v_vret (pc := 31) C 19 rfl hr
theorem c_X3_setTop {l : Launch} {w : gW} {rm : gM} (hJ : gJok w) {F : Nat} {x0 : Nat} {x1 : Int32} {x2 : Int32} {m : gM} (h : f_X3_setTop w.2.2.2.2.1 F x0 x1 x2 m = some rm) : gMet l 0 yX3_setTop cX3_setTop 3 none w [.ref x0, .int x1, .int x2] m none rm :=
  gMet.of hJ mf_X3_setTop dk_X3_setTop (Nat.le_of_ble_eq_true rfl) (fun X _ C hr => tf_X3_setTop (F := F) C hr h)
def f_X3_topInner (sh : List gS) (F : Nat) (x0 : Nat) (m : gM) : Option (Int32 × gM) :=
  g_if (oB sh x0 3) (if (m.1 x0 5) ≤ 0 then (some (0, m)) else ((m.2.2 x0 3).bind (fun t3 => g_if (aB sh t3 .int ((m.1 x0 5) - (1 : Int32))) (some (m.1 t3 ((m.1 x0 5) - (1 : Int32)).toNatClampNeg, m)))))
set_option maxRecDepth 100000 in
set_option maxHeartbeats 4000000 in
theorem tf_X3_topInner {X : gX} {w : gW} {rr : Int32} {rm : gM} (C : gC X w K_X3_topInner 1 RX3 0) (hr : X.2.2.2.2.2.2.2.2.1.sig.returnType = (some .int)) {F : Nat} {x0 : Nat} {m : gM} (h : f_X3_topInner w.2.2.2.2.1 F x0 m = some (rr, rm)) : gV X w 0 0 (gR X w (some (.int rr)) rm) 1 0 [(0, .ref x0)] [] m := by
  unfold f_X3_topInner at h
  refine v_aload_n (pc := 0) C 0 0 rfl rfl rfl ?_
  obtain ⟨o1, h⟩ := g_okk h
  refine v_getI (pc := 1) C 1 rfl lf_ScopeGraph_Reader_40.get (g_oB o1) rfl ?_
  refine v_if_le (pc := 4) C 2 21 rfl (by decide) (fun c2 => ?_) (fun c2 => ?_)
  · replace h := g_ifT c2 h
    refine v_iconst (pc := 21) C 11 0 rfl (by decide) ?_
    obtain ⟨rfl, rfl⟩ := g_so h
    exact v_iret (pc := 22) C 12 rfl hr
  · replace h := g_ifF c2 h
    refine v_aload_n (pc := 7) C 3 0 rfl rfl rfl ?_
    obtain ⟨t3, qt3, h⟩ := g_bd h
    refine v_getR (pc := 8) C 4 rfl lf_ScopeGraph_Reader_25 (g_oB o1) rfl qt3 ?_
    refine v_aload_n (pc := 11) C 5 0 rfl rfl rfl ?_
    refine v_getI (pc := 12) C 6 rfl lf_ScopeGraph_Reader_40.get (g_oB o1) rfl ?_
    refine v_iconst (pc := 15) C 7 1 rfl (by decide) ?_
    refine v_isub (pc := 16) C 8 rfl ?_
    obtain ⟨b4, h⟩ := g_okk h
    refine v_iald' (pc := 17) C 9 rfl b4 ?_
    refine v_goto (pc := 18) C 10 22 rfl (by decide) ?_
    obtain ⟨rfl, rfl⟩ := g_so h
    exact v_iret (pc := 22) C 12 rfl hr
theorem c_X3_topInner {l : Launch} {w : gW} {rr : Int32} {rm : gM} (hJ : gJok w) {F : Nat} {x0 : Nat} {m : gM} (h : f_X3_topInner w.2.2.2.2.1 F x0 m = some (rr, rm)) : gMet l 0 yX3_topInner cX3_topInner 1 (some .int) w [.ref x0] m (some (.int rr)) rm :=
  gMet.of hJ mf_X3_topInner dk_X3_topInner (Nat.le_of_ble_eq_true rfl) (fun X _ C hr => tf_X3_topInner (F := F) C hr h)
def f_X3_takeIn (sh : List gS) (F : Nat) (x0 : Nat) (m : gM) : Option (Int32 × gM) :=
  g_if (oB sh x0 3) ((f_X3_topInner sh F x0 m).bind (fun q4 => nm q4.1 (fun r3 => nm q4.2 (fun m2 => nm (gsI m2 x0 7 r3) (fun m5 => (f_X3_setTop sh F x0 13 (m5.1 x0 7) m5).bind (fun m6 => (f_X3_turnTo sh F x0 9 m6).bind (fun q10 => nm q10.1 (fun r9 => nm q10.2 (fun m8 => some (r9, m8))))))))))
set_option maxRecDepth 100000 in
set_option maxHeartbeats 4000000 in
theorem tf_X3_takeIn {X : gX} {w : gW} {rr : Int32} {rm : gM} (C : gC X w K_X3_takeIn 1 RX3 1) (hr : X.2.2.2.2.2.2.2.2.1.sig.returnType = (some .int)) {F : Nat} {x0 : Nat} {m : gM} (h : f_X3_takeIn w.2.2.2.2.1 F x0 m = some (rr, rm)) : gV X w 0 0 (gR X w (some (.int rr)) rm) 1 0 [(0, .ref x0)] [] m := by
  unfold f_X3_takeIn at h
  refine v_aload_n (pc := 0) C 0 0 rfl rfl rfl ?_
  refine v_aload_n (pc := 1) C 1 0 rfl rfl rfl ?_
  obtain ⟨o1, h⟩ := g_okk h
  obtain ⟨⟨r3, m2⟩, qm2, h⟩ := g_bd h
  replace h := g_nm (y := m2) (g_nm (y := r3) h rfl) rfl
  refine v_callV (pc := 2) C 2 rfl mf_X3_topInner clX3 rfl im_X3_topInner lm_ScopeGraph_Reader_128 (c_X3_topInner C.2.2.2.2.2.2.2.2.2.2.2 qm2) (by decide) rfl (g_oB o1) (Nat.le_of_ble_eq_true rfl) ⟨Nat.zero_le _, Nat.zero_le _⟩ rfl ?_
  change gV X w 0 0 (gR X w (some (.int rr)) rm) 1 5 [(0, .ref x0)] [.int r3, .ref x0] m2
  refine v_putI (pc := 5) C 3 rfl lf_ScopeGraph_Reader_47 (g_oB o1) rfl ?_
  refine v_topM (fun m5 em5 => ?_)
  replace h := g_nm h em5
  refine v_aload_n (pc := 8) C 4 0 rfl rfl rfl ?_
  refine v_bipush (pc := 9) C 5 13 rfl (by decide) ?_
  refine v_aload_n (pc := 11) C 6 0 rfl rfl rfl ?_
  refine v_getI (pc := 12) C 7 rfl lf_ScopeGraph_Reader_47.get (g_oB o1) rfl ?_
  obtain ⟨m6, qm6, h⟩ := g_bd h
  refine v_callV (pc := 15) C 8 rfl mf_X3_setTop clX3 rfl im_X3_setTop lm_ScopeGraph_Reader_168 (c_X3_setTop C.2.2.2.2.2.2.2.2.2.2.2 qm6) (by decide) rfl (g_oB o1) (Nat.le_of_ble_eq_true rfl) ⟨Nat.zero_le _, Nat.zero_le _⟩ rfl ?_
  change gV X w 0 0 (gR X w (some (.int rr)) rm) 1 18 [(0, .ref x0)] [] m6
  refine v_aload_n (pc := 18) C 9 0 rfl rfl rfl ?_
  refine v_bipush (pc := 19) C 10 9 rfl (by decide) ?_
  obtain ⟨⟨r9, m8⟩, qm8, h⟩ := g_bd h
  replace h := g_nm (y := m8) (g_nm (y := r9) h rfl) rfl
  refine v_callV (pc := 21) C 11 rfl mf_X3_turnTo clX3 rfl im_X3_turnTo lm_ScopeGraph_Reader_70 (c_X3_turnTo C.2.2.2.2.2.2.2.2.2.2.2 qm8) (by decide) rfl (g_oB o1) (Nat.le_of_ble_eq_true rfl) ⟨Nat.zero_le _, Nat.zero_le _⟩ rfl ?_
  change gV X w 0 0 (gR X w (some (.int rr)) rm) 1 24 [(0, .ref x0)] [.int r9] m8
  obtain ⟨rfl, rfl⟩ := g_so h
  exact v_iret (pc := 24) C 12 rfl hr
theorem c_X3_takeIn {l : Launch} {w : gW} {rr : Int32} {rm : gM} (hJ : gJok w) {F : Nat} {x0 : Nat} {m : gM} (h : f_X3_takeIn w.2.2.2.2.1 F x0 m = some (rr, rm)) : gMet l 1 yX3_takeIn cX3_takeIn 1 (some .int) w [.ref x0] m (some (.int rr)) rm :=
  gMet.of hJ mf_X3_takeIn dk_X3_takeIn (Nat.le_of_ble_eq_true rfl) (fun X _ C hr => tf_X3_takeIn (F := F) C hr h)
def f_X3_topFrame (sh : List gS) (F : Nat) (x0 : Nat) (m : gM) : Option (Int32 × gM) :=
  g_if (oB sh x0 3) (if (m.1 x0 5) ≤ 0 then (some (14, m)) else ((m.2.2 x0 1).bind (fun t3 => g_if (aB sh t3 .int ((m.1 x0 5) - (1 : Int32))) (some (m.1 t3 ((m.1 x0 5) - (1 : Int32)).toNatClampNeg, m)))))
set_option maxRecDepth 100000 in
set_option maxHeartbeats 4000000 in
theorem tf_X3_topFrame {X : gX} {w : gW} {rr : Int32} {rm : gM} (C : gC X w K_X3_topFrame 1 RX3 0) (hr : X.2.2.2.2.2.2.2.2.1.sig.returnType = (some .int)) {F : Nat} {x0 : Nat} {m : gM} (h : f_X3_topFrame w.2.2.2.2.1 F x0 m = some (rr, rm)) : gV X w 0 0 (gR X w (some (.int rr)) rm) 1 0 [(0, .ref x0)] [] m := by
  unfold f_X3_topFrame at h
  refine v_aload_n (pc := 0) C 0 0 rfl rfl rfl ?_
  obtain ⟨o1, h⟩ := g_okk h
  refine v_getI (pc := 1) C 1 rfl lf_ScopeGraph_Reader_40.get (g_oB o1) rfl ?_
  refine v_if_le (pc := 4) C 2 21 rfl (by decide) (fun c2 => ?_) (fun c2 => ?_)
  · replace h := g_ifT c2 h
    refine v_bipush (pc := 21) C 11 14 rfl (by decide) ?_
    obtain ⟨rfl, rfl⟩ := g_so h
    exact v_iret (pc := 23) C 12 rfl hr
  · replace h := g_ifF c2 h
    refine v_aload_n (pc := 7) C 3 0 rfl rfl rfl ?_
    obtain ⟨t3, qt3, h⟩ := g_bd h
    refine v_getR (pc := 8) C 4 rfl lf_ScopeGraph_Reader_18 (g_oB o1) rfl qt3 ?_
    refine v_aload_n (pc := 11) C 5 0 rfl rfl rfl ?_
    refine v_getI (pc := 12) C 6 rfl lf_ScopeGraph_Reader_40.get (g_oB o1) rfl ?_
    refine v_iconst (pc := 15) C 7 1 rfl (by decide) ?_
    refine v_isub (pc := 16) C 8 rfl ?_
    obtain ⟨b4, h⟩ := g_okk h
    refine v_iald' (pc := 17) C 9 rfl b4 ?_
    refine v_goto (pc := 18) C 10 23 rfl (by decide) ?_
    obtain ⟨rfl, rfl⟩ := g_so h
    exact v_iret (pc := 23) C 12 rfl hr
theorem c_X3_topFrame {l : Launch} {w : gW} {rr : Int32} {rm : gM} (hJ : gJok w) {F : Nat} {x0 : Nat} {m : gM} (h : f_X3_topFrame w.2.2.2.2.1 F x0 m = some (rr, rm)) : gMet l 0 yX3_topFrame cX3_topFrame 1 (some .int) w [.ref x0] m (some (.int rr)) rm :=
  gMet.of hJ mf_X3_topFrame dk_X3_topFrame (Nat.le_of_ble_eq_true rfl) (fun X _ C hr => tf_X3_topFrame (F := F) C hr h)
def b_X3_takeBehindAtom_135 (sh : List gS) (F : Nat) (x0 : Nat) (m : gM) : Option (Int32 × gM) :=
  g_if (oB sh x0 3) ((f_X3_closeTo sh F x0 12 m).bind (fun q4 => nm q4.1 (fun r3 => nm q4.2 (fun m2 => some (r3, m2)))))
set_option maxRecDepth 100000 in
set_option maxHeartbeats 4000000 in
theorem tb_X3_takeBehindAtom_135 {X : gX} {w : gW} {rr : Int32} {rm : gM} (C : gC X w K_X3_takeBehindAtom 3 RX3 4) (hr : X.2.2.2.2.2.2.2.2.1.sig.returnType = (some .int)) {F : Nat} {x0 : Nat} {m : gM} (h : b_X3_takeBehindAtom_135 w.2.2.2.2.1 F x0 m = some (rr, rm)) : gV X w 0 0 (gR X w (some (.int rr)) rm) 3 135 [(0, .ref x0)] [] m := by
  unfold b_X3_takeBehindAtom_135 at h
  refine v_aload_n (pc := 135) C 44 0 rfl rfl rfl ?_
  refine v_bipush (pc := 136) C 45 12 rfl (by decide) ?_
  obtain ⟨o1, h⟩ := g_okk h
  obtain ⟨⟨r3, m2⟩, qm2, h⟩ := g_bd h
  replace h := g_nm (y := m2) (g_nm (y := r3) h rfl) rfl
  refine v_callV (pc := 138) C 46 rfl mf_X3_closeTo clX3 rfl im_X3_closeTo lm_ScopeGraph_Reader_89 (c_X3_closeTo C.2.2.2.2.2.2.2.2.2.2.2 qm2) (by decide) rfl (g_oB o1) (Nat.le_of_ble_eq_true rfl) ⟨Nat.zero_le _, Nat.zero_le _⟩ rfl ?_
  change gV X w 0 0 (gR X w (some (.int rr)) rm) 3 141 [(0, .ref x0)] [.int r3] m2
  refine v_goto (pc := 141) C 47 145 rfl (by decide) ?_
  obtain ⟨rfl, rfl⟩ := g_so h
  exact v_iret (pc := 145) C 49 rfl hr
def f_X3_takeBehindAtom (sh : List gS) (F : Nat) (x0 : Nat) (x1 : Int32) (m : gM) : Option (Int32 × gM) :=
  g_if (oB sh x0 3) ((f_X3_topFrame sh F x0 m).bind (fun q4 => nm q4.1 (fun r3 => nm q4.2 (fun m2 => if r3 = (10 : Int32) then (if x1 = (59 : Int32) then ((f_X3_takeImportEnd sh F x0 m2).bind (fun q45 => nm q45.1 (fun r44 => nm q45.2 (fun m43 => some (r44, m43))))) else (some (2, m2))) else (if x1 = 41 then (if r3 = (12 : Int32) then ((f_X3_closeTo sh F x0 12 m2).bind (fun q10 => nm q10.1 (fun r9 => nm q10.2 (fun m8 => some (r9, m8))))) else (some (2, m2))) else (if x1 = 43 then ((f_X3_turnTo sh F x0 10 m2).bind (fun q14 => nm q14.1 (fun r13 => nm q14.2 (fun m12 => some (r13, m12))))) else (if x1 = 44 then ((f_X3_hasBinds sh F r3 m2).bind (fun q18 => nm q18.1 (fun r17 => nm q18.2 (fun m16 => if r17 = 0 then (some (2, m16)) else ((f_X3_turnTo sh F x0 5 m16).bind (fun q22 => nm q22.1 (fun r21 => nm q22.2 (fun m20 => some (r21, m20))))))))) else (if x1 = 59 then (if r3 = (11 : Int32) then ((f_X3_popTo sh F x0 0 m2).bind (fun q27 => nm q27.1 (fun r26 => nm q27.2 (fun m25 => some (r26, m25))))) else (some (2, m2))) else (if x1 = 125 then (if r3 = (2 : Int32) then (b_X3_takeBehindAtom_135 sh F x0 m2) else (if r3 = (13 : Int32) then (b_X3_takeBehindAtom_135 sh F x0 m2) else (some (2, m2)))) else (if x1 = 263 then ((f_X3_hasBinds sh F r3 m2).bind (fun q34 => nm q34.1 (fun r33 => nm q34.2 (fun m32 => if r33 = 0 then (some (2, m32)) else ((f_X3_takeIn sh F x0 m32).bind (fun q38 => nm q38.1 (fun r37 => nm q38.2 (fun m36 => some (r37, m36))))))))) else ((f_X3_takeAtom sh F x0 x1 m2).bind (fun q41 => nm q41.1 (fun r40 => nm q41.2 (fun m39 => some (r40, m39)))))))))))))))
set_option maxRecDepth 100000 in
set_option maxHeartbeats 4000000 in
theorem tf_X3_takeBehindAtom {X : gX} {w : gW} {rr : Int32} {rm : gM} (C : gC X w K_X3_takeBehindAtom 3 RX3 4) (hr : X.2.2.2.2.2.2.2.2.1.sig.returnType = (some .int)) {F : Nat} {x0 : Nat} {x1 : Int32} {m : gM} (h : f_X3_takeBehindAtom w.2.2.2.2.1 F x0 x1 m = some (rr, rm)) : gV X w 0 0 (gR X w (some (.int rr)) rm) 3 0 [(0, .ref x0), (1, .int x1)] [] m := by
  unfold f_X3_takeBehindAtom at h
  refine v_aload_n (pc := 0) C 0 0 rfl rfl rfl ?_
  obtain ⟨o1, h⟩ := g_okk h
  obtain ⟨⟨r3, m2⟩, qm2, h⟩ := g_bd h
  replace h := g_nm (y := m2) (g_nm (y := r3) h rfl) rfl
  refine v_callV (pc := 1) C 1 rfl mf_X3_topFrame clX3 rfl im_X3_topFrame lm_ScopeGraph_Reader_86 (c_X3_topFrame C.2.2.2.2.2.2.2.2.2.2.2 qm2) (by decide) rfl (g_oB o1) (Nat.le_of_ble_eq_true rfl) ⟨Nat.zero_le _, Nat.zero_le _⟩ rfl ?_
  change gV X w 0 0 (gR X w (some (.int rr)) rm) 3 4 [(0, .ref x0), (1, .int x1)] [.int r3] m2
  refine v_istore_n (pc := 4) (lv' := [(2, .int r3), (0, .ref x0), (1, .int x1)]) C 2 rfl rfl (by decide) rfl ?_
  refine v_iload_n (pc := 5) C 3 0 rfl rfl rfl ?_
  refine v_bipush (pc := 6) C 4 10 rfl (by decide) ?_
  refine v_icmp_ne (pc := 8) C 5 26 rfl (by decide) (fun c5 => ?_) (fun c5 => ?_)
  · replace h := g_ifF c5 h
    refine v_iload_n (pc := 26) C 14 2 rfl rfl rfl ?_
    by_cases c6 : x1 = 41
    · replace h := g_ifT c6 h
      refine v_lookup (pc := 27) C 15 107 rfl (by decide) (by rw [c6]) (by decide) ?_
      refine v_iload_n (pc := 107) C 29 0 rfl rfl rfl ?_
      refine v_bipush (pc := 108) C 30 12 rfl (by decide) ?_
      refine v_icmp_ne (pc := 110) C 31 122 rfl (by decide) (fun c7 => ?_) (fun c7 => ?_)
      · replace h := g_ifF c7 h
        refine v_iconst (pc := 122) C 36 2 rfl (by decide) ?_
        obtain ⟨rfl, rfl⟩ := g_so h
        exact v_iret (pc := 123) C 37 rfl hr
      · replace h := g_ifT c7 h
        refine v_aload_n (pc := 113) C 32 1 rfl rfl rfl ?_
        refine v_bipush (pc := 114) C 33 12 rfl (by decide) ?_
        obtain ⟨⟨r9, m8⟩, qm8, h⟩ := g_bd h
        replace h := g_nm (y := m8) (g_nm (y := r9) h rfl) rfl
        refine v_callV (pc := 116) C 34 rfl mf_X3_closeTo clX3 rfl im_X3_closeTo lm_ScopeGraph_Reader_89 (c_X3_closeTo C.2.2.2.2.2.2.2.2.2.2.2 qm8) (by decide) rfl (g_oB o1) (Nat.le_of_ble_eq_true rfl) ⟨Nat.zero_le _, Nat.zero_le _⟩ rfl ?_
        change gV X w 0 0 (gR X w (some (.int rr)) rm) 3 119 [(2, .int r3), (0, .ref x0), (1, .int x1)] [.int r9] m8
        refine v_goto (pc := 119) C 35 123 rfl (by decide) ?_
        obtain ⟨rfl, rfl⟩ := g_so h
        exact v_iret (pc := 123) C 37 rfl hr
    · replace h := g_ifF c6 h
      have zc6 := g_tne (n := 41) (by decide) c6
      by_cases c11 : x1 = 43
      · replace h := g_ifT c11 h
        refine v_lookup (pc := 27) C 15 84 rfl (by decide) (by rw [c11]) (by decide) ?_
        refine v_aload_n (pc := 84) C 16 1 rfl rfl rfl ?_
        refine v_bipush (pc := 85) C 17 10 rfl (by decide) ?_
        obtain ⟨⟨r13, m12⟩, qm12, h⟩ := g_bd h
        replace h := g_nm (y := m12) (g_nm (y := r13) h rfl) rfl
        refine v_callV (pc := 87) C 18 rfl mf_X3_turnTo clX3 rfl im_X3_turnTo lm_ScopeGraph_Reader_70 (c_X3_turnTo C.2.2.2.2.2.2.2.2.2.2.2 qm12) (by decide) rfl (g_oB o1) (Nat.le_of_ble_eq_true rfl) ⟨Nat.zero_le _, Nat.zero_le _⟩ rfl ?_
        change gV X w 0 0 (gR X w (some (.int rr)) rm) 3 90 [(2, .int r3), (0, .ref x0), (1, .int x1)] [.int r13] m12
        obtain ⟨rfl, rfl⟩ := g_so h
        exact v_iret (pc := 90) C 19 rfl hr
      · replace h := g_ifF c11 h
        have zc11 := g_tne (n := 43) (by decide) c11
        by_cases c15 : x1 = 44
        · replace h := g_ifT c15 h
          refine v_lookup (pc := 27) C 15 146 rfl (by decide) (by rw [c15]) (by decide) ?_
          refine v_iload_n (pc := 146) C 50 0 rfl rfl rfl ?_
          obtain ⟨⟨r17, m16⟩, qm16, h⟩ := g_bd h
          replace h := g_nm (y := m16) (g_nm (y := r17) h rfl) rfl
          refine v_callS (pc := 147) C 51 rfl mf_X3_hasBinds sm_X3_hasBinds lm_ScopeGraph_Reader_112 (c_X3_hasBinds C.2.2.2.2.2.2.2.2.2.2.2 qm16) (by decide) rfl (Nat.le_of_ble_eq_true rfl) ⟨Nat.zero_le _, Nat.zero_le _⟩ rfl ?_
          change gV X w 0 0 (gR X w (some (.int rr)) rm) 3 150 [(2, .int r3), (0, .ref x0), (1, .int x1)] [.int r17] m16
          refine v_if_eq (pc := 150) C 52 161 rfl (by decide) (fun c19 => ?_) (fun c19 => ?_)
          · replace h := g_ifT c19 h
            refine v_iconst (pc := 161) C 57 2 rfl (by decide) ?_
            obtain ⟨rfl, rfl⟩ := g_so h
            exact v_iret (pc := 162) C 58 rfl hr
          · replace h := g_ifF c19 h
            refine v_aload_n (pc := 153) C 53 1 rfl rfl rfl ?_
            refine v_iconst (pc := 154) C 54 5 rfl (by decide) ?_
            obtain ⟨⟨r21, m20⟩, qm20, h⟩ := g_bd h
            replace h := g_nm (y := m20) (g_nm (y := r21) h rfl) rfl
            refine v_callV (pc := 155) C 55 rfl mf_X3_turnTo clX3 rfl im_X3_turnTo lm_ScopeGraph_Reader_70 (c_X3_turnTo C.2.2.2.2.2.2.2.2.2.2.2 qm20) (by decide) rfl (g_oB o1) (Nat.le_of_ble_eq_true rfl) ⟨Nat.zero_le _, Nat.zero_le _⟩ rfl ?_
            change gV X w 0 0 (gR X w (some (.int rr)) rm) 3 158 [(2, .int r3), (0, .ref x0), (1, .int x1)] [.int r21] m20
            refine v_goto (pc := 158) C 56 162 rfl (by decide) ?_
            obtain ⟨rfl, rfl⟩ := g_so h
            exact v_iret (pc := 162) C 58 rfl hr
        · replace h := g_ifF c15 h
          have zc15 := g_tne (n := 44) (by decide) c15
          by_cases c23 : x1 = 59
          · replace h := g_ifT c23 h
            refine v_lookup (pc := 27) C 15 91 rfl (by decide) (by rw [c23]) (by decide) ?_
            refine v_iload_n (pc := 91) C 20 0 rfl rfl rfl ?_
            refine v_bipush (pc := 92) C 21 11 rfl (by decide) ?_
            refine v_icmp_ne (pc := 94) C 22 105 rfl (by decide) (fun c24 => ?_) (fun c24 => ?_)
            · replace h := g_ifF c24 h
              refine v_iconst (pc := 105) C 27 2 rfl (by decide) ?_
              obtain ⟨rfl, rfl⟩ := g_so h
              exact v_iret (pc := 106) C 28 rfl hr
            · replace h := g_ifT c24 h
              refine v_aload_n (pc := 97) C 23 1 rfl rfl rfl ?_
              refine v_iconst (pc := 98) C 24 0 rfl (by decide) ?_
              obtain ⟨⟨r26, m25⟩, qm25, h⟩ := g_bd h
              replace h := g_nm (y := m25) (g_nm (y := r26) h rfl) rfl
              refine v_callV (pc := 99) C 25 rfl mf_X3_popTo clX3 rfl im_X3_popTo lm_ScopeGraph_Reader_109 (c_X3_popTo C.2.2.2.2.2.2.2.2.2.2.2 qm25) (by decide) rfl (g_oB o1) (Nat.le_of_ble_eq_true rfl) ⟨Nat.zero_le _, Nat.zero_le _⟩ rfl ?_
              change gV X w 0 0 (gR X w (some (.int rr)) rm) 3 102 [(2, .int r3), (0, .ref x0), (1, .int x1)] [.int r26] m25
              refine v_goto (pc := 102) C 26 106 rfl (by decide) ?_
              obtain ⟨rfl, rfl⟩ := g_so h
              exact v_iret (pc := 106) C 28 rfl hr
          · replace h := g_ifF c23 h
            have zc23 := g_tne (n := 59) (by decide) c23
            by_cases c28 : x1 = 125
            · replace h := g_ifT c28 h
              refine v_lookup (pc := 27) C 15 124 rfl (by decide) (by rw [c28]) (by decide) ?_
              refine v_iload_n (pc := 124) C 38 0 rfl rfl rfl ?_
              refine v_iconst (pc := 125) C 39 2 rfl (by decide) ?_
              refine v_icmp_eq (pc := 126) C 40 135 rfl (by decide) (fun c29 => ?_) (fun c29 => ?_)
              · replace h := g_ifT c29 h
                refine v_sub [(0, .ref x0)] [1] rfl ?_
                exact tb_X3_takeBehindAtom_135 (F := F) C hr h
              · replace h := g_ifF c29 h
                refine v_iload_n (pc := 129) C 41 0 rfl rfl rfl ?_
                refine v_bipush (pc := 130) C 42 13 rfl (by decide) ?_
                refine v_icmp_ne (pc := 132) C 43 144 rfl (by decide) (fun c30 => ?_) (fun c30 => ?_)
                · replace h := g_ifF c30 h
                  refine v_iconst (pc := 144) C 48 2 rfl (by decide) ?_
                  obtain ⟨rfl, rfl⟩ := g_so h
                  exact v_iret (pc := 145) C 49 rfl hr
                · replace h := g_ifT c30 h
                  refine v_sub [(0, .ref x0)] [1] rfl ?_
                  exact tb_X3_takeBehindAtom_135 (F := F) C hr h
            · replace h := g_ifF c28 h
              have zc28 := g_tne (n := 125) (by decide) c28
              by_cases c31 : x1 = 263
              · replace h := g_ifT c31 h
                refine v_lookup (pc := 27) C 15 163 rfl (by decide) (by rw [c31]) (by decide) ?_
                refine v_iload_n (pc := 163) C 59 0 rfl rfl rfl ?_
                obtain ⟨⟨r33, m32⟩, qm32, h⟩ := g_bd h
                replace h := g_nm (y := m32) (g_nm (y := r33) h rfl) rfl
                refine v_callS (pc := 164) C 60 rfl mf_X3_hasBinds sm_X3_hasBinds lm_ScopeGraph_Reader_112 (c_X3_hasBinds C.2.2.2.2.2.2.2.2.2.2.2 qm32) (by decide) rfl (Nat.le_of_ble_eq_true rfl) ⟨Nat.zero_le _, Nat.zero_le _⟩ rfl ?_
                change gV X w 0 0 (gR X w (some (.int rr)) rm) 3 167 [(2, .int r3), (0, .ref x0), (1, .int x1)] [.int r33] m32
                refine v_if_eq (pc := 167) C 61 177 rfl (by decide) (fun c35 => ?_) (fun c35 => ?_)
                · replace h := g_ifT c35 h
                  refine v_iconst (pc := 177) C 65 2 rfl (by decide) ?_
                  obtain ⟨rfl, rfl⟩ := g_so h
                  exact v_iret (pc := 178) C 66 rfl hr
                · replace h := g_ifF c35 h
                  refine v_aload_n (pc := 170) C 62 1 rfl rfl rfl ?_
                  obtain ⟨⟨r37, m36⟩, qm36, h⟩ := g_bd h
                  replace h := g_nm (y := m36) (g_nm (y := r37) h rfl) rfl
                  refine v_callV (pc := 171) C 63 rfl mf_X3_takeIn clX3 rfl im_X3_takeIn lm_ScopeGraph_Reader_116 (c_X3_takeIn C.2.2.2.2.2.2.2.2.2.2.2 qm36) (by decide) rfl (g_oB o1) (Nat.le_of_ble_eq_true rfl) ⟨Nat.zero_le _, Nat.zero_le _⟩ rfl ?_
                  change gV X w 0 0 (gR X w (some (.int rr)) rm) 3 174 [(2, .int r3), (0, .ref x0), (1, .int x1)] [.int r37] m36
                  refine v_goto (pc := 174) C 64 178 rfl (by decide) ?_
                  obtain ⟨rfl, rfl⟩ := g_so h
                  exact v_iret (pc := 178) C 66 rfl hr
              · replace h := g_ifF c31 h
                have zc31 := g_tne (n := 263) (by decide) c31
                refine v_lookup (off := 152) (pc := 27) C 15 179 rfl (by decide) (by simp [Op.lookupswitch.offset, zc6, zc11, zc15, zc23, zc28, zc31, zc6.symm, zc11.symm, zc15.symm, zc23.symm, zc28.symm, zc31.symm]) (by decide) ?_
                refine v_aload_n (pc := 179) C 67 1 rfl rfl rfl ?_
                refine v_iload_n (pc := 180) C 68 2 rfl rfl rfl ?_
                obtain ⟨⟨r40, m39⟩, qm39, h⟩ := g_bd h
                replace h := g_nm (y := m39) (g_nm (y := r40) h rfl) rfl
                refine v_callV (pc := 181) C 69 rfl mf_X3_takeAtom clX3 rfl im_X3_takeAtom lm_ScopeGraph_Reader_76 (c_X3_takeAtom C.2.2.2.2.2.2.2.2.2.2.2 qm39) (by decide) rfl (g_oB o1) (Nat.le_of_ble_eq_true rfl) ⟨Nat.zero_le _, Nat.zero_le _⟩ rfl ?_
                change gV X w 0 0 (gR X w (some (.int rr)) rm) 3 184 [(2, .int r3), (0, .ref x0), (1, .int x1)] [.int r40] m39
                obtain ⟨rfl, rfl⟩ := g_so h
                exact v_iret (pc := 184) C 70 rfl hr
  · replace h := g_ifT c5 h
    refine v_iload_n (pc := 11) C 6 2 rfl rfl rfl ?_
    refine v_bipush (pc := 12) C 7 59 rfl (by decide) ?_
    refine v_icmp_ne (pc := 14) C 8 24 rfl (by decide) (fun c42 => ?_) (fun c42 => ?_)
    · replace h := g_ifF c42 h
      refine v_iconst (pc := 24) C 12 2 rfl (by decide) ?_
      obtain ⟨rfl, rfl⟩ := g_so h
      exact v_iret (pc := 25) C 13 rfl hr
    · replace h := g_ifT c42 h
      refine v_aload_n (pc := 17) C 9 1 rfl rfl rfl ?_
      obtain ⟨⟨r44, m43⟩, qm43, h⟩ := g_bd h
      replace h := g_nm (y := m43) (g_nm (y := r44) h rfl) rfl
      refine v_callV (pc := 18) C 10 rfl mf_X3_takeImportEnd clX3 rfl im_X3_takeImportEnd lm_ScopeGraph_Reader_106 (c_X3_takeImportEnd C.2.2.2.2.2.2.2.2.2.2.2 qm43) (by decide) rfl (g_oB o1) (Nat.le_of_ble_eq_true rfl) ⟨Nat.zero_le _, Nat.zero_le _⟩ rfl ?_
      change gV X w 0 0 (gR X w (some (.int rr)) rm) 3 21 [(2, .int r3), (0, .ref x0), (1, .int x1)] [.int r44] m43
      refine v_goto (pc := 21) C 11 25 rfl (by decide) ?_
      obtain ⟨rfl, rfl⟩ := g_so h
      exact v_iret (pc := 25) C 13 rfl hr
theorem c_X3_takeBehindAtom {l : Launch} {w : gW} {rr : Int32} {rm : gM} (hJ : gJok w) {F : Nat} {x0 : Nat} {x1 : Int32} {m : gM} (h : f_X3_takeBehindAtom w.2.2.2.2.1 F x0 x1 m = some (rr, rm)) : gMet l 4 yX3_takeBehindAtom cX3_takeBehindAtom 3 (some .int) w [.ref x0, .int x1] m (some (.int rr)) rm :=
  gMet.of hJ mf_X3_takeBehindAtom dk_X3_takeBehindAtom (Nat.le_of_ble_eq_true rfl) (fun X _ C hr => tf_X3_takeBehindAtom (F := F) C hr h)
def f_X3_takeDec (sh : List gS) (F : Nat) (x0 : Nat) (x1 : Int32) (m : gM) : Option (Int32 × gM) :=
  if x1 = 125 then (g_if (oB sh x0 3) ((f_X3_topFrame sh F x0 m).bind (fun q5 => nm q5.1 (fun r4 => nm q5.2 (fun m3 => if r4 = (1 : Int32) then ((f_X3_closeTo sh F x0 0 m3).bind (fun q9 => nm q9.1 (fun r8 => nm q9.2 (fun m7 => some (r8, m7))))) else (some (2, m3))))))) else (if x1 = 256 then (g_if (oB sh x0 3) ((f_X3_turnTo sh F x0 1 m).bind (fun q14 => nm q14.1 (fun r13 => nm q14.2 (fun m12 => some (r13, m12)))))) else (if x1 = 257 then (g_if (oB sh x0 3) ((f_X3_turnTo sh F x0 2 m).bind (fun q19 => nm q19.1 (fun r18 => nm q19.2 (fun m17 => some (r18, m17)))))) else (if x1 = 258 then (g_if (oB sh x0 3) ((f_X3_turnTo sh F x0 3 m).bind (fun q24 => nm q24.1 (fun r23 => nm q24.2 (fun m22 => some (r23, m22)))))) else (if x1 = 266 then (g_if (oB sh x0 3) (if (m.1 x0 5) = 0 then (some (0, m)) else (some (2, m)))) else (some (2, m))))))
set_option maxRecDepth 100000 in
set_option maxHeartbeats 4000000 in
theorem tf_X3_takeDec {X : gX} {w : gW} {rr : Int32} {rm : gM} (C : gC X w K_X3_takeDec 2 RX3 3) (hr : X.2.2.2.2.2.2.2.2.1.sig.returnType = (some .int)) {F : Nat} {x0 : Nat} {x1 : Int32} {m : gM} (h : f_X3_takeDec w.2.2.2.2.1 F x0 x1 m = some (rr, rm)) : gV X w 0 0 (gR X w (some (.int rr)) rm) 2 0 [(0, .ref x0), (1, .int x1)] [] m := by
  unfold f_X3_takeDec at h
  refine v_iload_n (pc := 0) C 0 1 rfl rfl rfl ?_
  by_cases c1 : x1 = 125
  · replace h := g_ifT c1 h
    refine v_lookup (pc := 1) C 1 70 rfl (by decide) (by rw [c1]) (by decide) ?_
    refine v_aload_n (pc := 70) C 14 0 rfl rfl rfl ?_
    obtain ⟨o2, h⟩ := g_okk h
    obtain ⟨⟨r4, m3⟩, qm3, h⟩ := g_bd h
    replace h := g_nm (y := m3) (g_nm (y := r4) h rfl) rfl
    refine v_callV (pc := 71) C 15 rfl mf_X3_topFrame clX3 rfl im_X3_topFrame lm_ScopeGraph_Reader_86 (c_X3_topFrame C.2.2.2.2.2.2.2.2.2.2.2 qm3) (by decide) rfl (g_oB o2) (Nat.le_of_ble_eq_true rfl) ⟨Nat.zero_le _, Nat.zero_le _⟩ rfl ?_
    change gV X w 0 0 (gR X w (some (.int rr)) rm) 2 74 [(0, .ref x0), (1, .int x1)] [.int r4] m3
    refine v_iconst (pc := 74) C 16 1 rfl (by decide) ?_
    refine v_icmp_ne (pc := 75) C 17 86 rfl (by decide) (fun c6 => ?_) (fun c6 => ?_)
    · replace h := g_ifF c6 h
      refine v_iconst (pc := 86) C 22 2 rfl (by decide) ?_
      obtain ⟨rfl, rfl⟩ := g_so h
      exact v_iret (pc := 87) C 23 rfl hr
    · replace h := g_ifT c6 h
      refine v_aload_n (pc := 78) C 18 0 rfl rfl rfl ?_
      refine v_iconst (pc := 79) C 19 0 rfl (by decide) ?_
      obtain ⟨⟨r8, m7⟩, qm7, h⟩ := g_bd h
      replace h := g_nm (y := m7) (g_nm (y := r8) h rfl) rfl
      refine v_callV (pc := 80) C 20 rfl mf_X3_closeTo clX3 rfl im_X3_closeTo lm_ScopeGraph_Reader_89 (c_X3_closeTo C.2.2.2.2.2.2.2.2.2.2.2 qm7) (by decide) rfl (g_oB o2) (Nat.le_of_ble_eq_true rfl) ⟨Nat.zero_le _, Nat.zero_le _⟩ rfl ?_
      change gV X w 0 0 (gR X w (some (.int rr)) rm) 2 83 [(0, .ref x0), (1, .int x1)] [.int r8] m7
      refine v_goto (pc := 83) C 21 87 rfl (by decide) ?_
      obtain ⟨rfl, rfl⟩ := g_so h
      exact v_iret (pc := 87) C 23 rfl hr
  · replace h := g_ifF c1 h
    have zc1 := g_tne (n := 125) (by decide) c1
    by_cases c10 : x1 = 256
    · replace h := g_ifT c10 h
      refine v_lookup (pc := 1) C 1 52 rfl (by decide) (by rw [c10]) (by decide) ?_
      refine v_aload_n (pc := 52) C 2 0 rfl rfl rfl ?_
      refine v_iconst (pc := 53) C 3 1 rfl (by decide) ?_
      obtain ⟨o11, h⟩ := g_okk h
      obtain ⟨⟨r13, m12⟩, qm12, h⟩ := g_bd h
      replace h := g_nm (y := m12) (g_nm (y := r13) h rfl) rfl
      refine v_callV (pc := 54) C 4 rfl mf_X3_turnTo clX3 rfl im_X3_turnTo lm_ScopeGraph_Reader_70 (c_X3_turnTo C.2.2.2.2.2.2.2.2.2.2.2 qm12) (by decide) rfl (g_oB o11) (Nat.le_of_ble_eq_true rfl) ⟨Nat.zero_le _, Nat.zero_le _⟩ rfl ?_
      change gV X w 0 0 (gR X w (some (.int rr)) rm) 2 57 [(0, .ref x0), (1, .int x1)] [.int r13] m12
      obtain ⟨rfl, rfl⟩ := g_so h
      exact v_iret (pc := 57) C 5 rfl hr
    · replace h := g_ifF c10 h
      have zc10 := g_tne (n := 256) (by decide) c10
      by_cases c15 : x1 = 257
      · replace h := g_ifT c15 h
        refine v_lookup (pc := 1) C 1 58 rfl (by decide) (by rw [c15]) (by decide) ?_
        refine v_aload_n (pc := 58) C 6 0 rfl rfl rfl ?_
        refine v_iconst (pc := 59) C 7 2 rfl (by decide) ?_
        obtain ⟨o16, h⟩ := g_okk h
        obtain ⟨⟨r18, m17⟩, qm17, h⟩ := g_bd h
        replace h := g_nm (y := m17) (g_nm (y := r18) h rfl) rfl
        refine v_callV (pc := 60) C 8 rfl mf_X3_turnTo clX3 rfl im_X3_turnTo lm_ScopeGraph_Reader_70 (c_X3_turnTo C.2.2.2.2.2.2.2.2.2.2.2 qm17) (by decide) rfl (g_oB o16) (Nat.le_of_ble_eq_true rfl) ⟨Nat.zero_le _, Nat.zero_le _⟩ rfl ?_
        change gV X w 0 0 (gR X w (some (.int rr)) rm) 2 63 [(0, .ref x0), (1, .int x1)] [.int r18] m17
        obtain ⟨rfl, rfl⟩ := g_so h
        exact v_iret (pc := 63) C 9 rfl hr
      · replace h := g_ifF c15 h
        have zc15 := g_tne (n := 257) (by decide) c15
        by_cases c20 : x1 = 258
        · replace h := g_ifT c20 h
          refine v_lookup (pc := 1) C 1 64 rfl (by decide) (by rw [c20]) (by decide) ?_
          refine v_aload_n (pc := 64) C 10 0 rfl rfl rfl ?_
          refine v_iconst (pc := 65) C 11 3 rfl (by decide) ?_
          obtain ⟨o21, h⟩ := g_okk h
          obtain ⟨⟨r23, m22⟩, qm22, h⟩ := g_bd h
          replace h := g_nm (y := m22) (g_nm (y := r23) h rfl) rfl
          refine v_callV (pc := 66) C 12 rfl mf_X3_turnTo clX3 rfl im_X3_turnTo lm_ScopeGraph_Reader_70 (c_X3_turnTo C.2.2.2.2.2.2.2.2.2.2.2 qm22) (by decide) rfl (g_oB o21) (Nat.le_of_ble_eq_true rfl) ⟨Nat.zero_le _, Nat.zero_le _⟩ rfl ?_
          change gV X w 0 0 (gR X w (some (.int rr)) rm) 2 69 [(0, .ref x0), (1, .int x1)] [.int r23] m22
          obtain ⟨rfl, rfl⟩ := g_so h
          exact v_iret (pc := 69) C 13 rfl hr
        · replace h := g_ifF c20 h
          have zc20 := g_tne (n := 258) (by decide) c20
          by_cases c25 : x1 = 266
          · replace h := g_ifT c25 h
            refine v_lookup (pc := 1) C 1 88 rfl (by decide) (by rw [c25]) (by decide) ?_
            refine v_aload_n (pc := 88) C 24 0 rfl rfl rfl ?_
            obtain ⟨o26, h⟩ := g_okk h
            refine v_getI (pc := 89) C 25 rfl lf_ScopeGraph_Reader_40.get (g_oB o26) rfl ?_
            refine v_if_ne (pc := 92) C 26 99 rfl (by decide) (fun c27 => ?_) (fun c27 => ?_)
            · replace h := g_ifF c27 h
              refine v_iconst (pc := 99) C 29 2 rfl (by decide) ?_
              obtain ⟨rfl, rfl⟩ := g_so h
              exact v_iret (pc := 100) C 30 rfl hr
            · replace h := g_ifT c27 h
              refine v_iconst (pc := 95) C 27 0 rfl (by decide) ?_
              refine v_goto (pc := 96) C 28 100 rfl (by decide) ?_
              obtain ⟨rfl, rfl⟩ := g_so h
              exact v_iret (pc := 100) C 30 rfl hr
          · replace h := g_ifF c25 h
            have zc25 := g_tne (n := 266) (by decide) c25
            refine v_lookup (off := 100) (pc := 1) C 1 101 rfl (by decide) (by simp [Op.lookupswitch.offset, zc1, zc10, zc15, zc20, zc25, zc1.symm, zc10.symm, zc15.symm, zc20.symm, zc25.symm]) (by decide) ?_
            refine v_iconst (pc := 101) C 31 2 rfl (by decide) ?_
            obtain ⟨rfl, rfl⟩ := g_so h
            exact v_iret (pc := 102) C 32 rfl hr
theorem c_X3_takeDec {l : Launch} {w : gW} {rr : Int32} {rm : gM} (hJ : gJok w) {F : Nat} {x0 : Nat} {x1 : Int32} {m : gM} (h : f_X3_takeDec w.2.2.2.2.1 F x0 x1 m = some (rr, rm)) : gMet l 3 yX3_takeDec cX3_takeDec 2 (some .int) w [.ref x0, .int x1] m (some (.int rr)) rm :=
  gMet.of hJ mf_X3_takeDec dk_X3_takeDec (Nat.le_of_ble_eq_true rfl) (fun X _ C hr => tf_X3_takeDec (F := F) C hr h)
def f_X3_declareIn (sh : List gS) (F : Nat) (x0 : Nat) (x1 : Int32) (x2 : Int32) (m : gM) : Option (Int32 × gM) :=
  g_if (oB sh x0 3) ((m.2.2 x0 4).bind (fun t2 => (m.2.2 x0 0).bind (fun t3 => g_if (oB sh t2 2) ((f_X2_declare sh F t2 x1 t3 m).bind (fun q7 => nm q7.1 (fun r6 => nm q7.2 (fun m5 => if r6 = ((-1) : Int32) then (some (4, m5)) else ((f_X3_turnTo sh F x0 x2 m5).bind (fun q11 => nm q11.1 (fun r10 => nm q11.2 (fun m9 => some (r10, m9))))))))))))
set_option maxRecDepth 100000 in
set_option maxHeartbeats 4000000 in
theorem tf_X3_declareIn {X : gX} {w : gW} {rr : Int32} {rm : gM} (C : gC X w K_X3_declareIn 3 RX3 2) (hr : X.2.2.2.2.2.2.2.2.1.sig.returnType = (some .int)) {F : Nat} {x0 : Nat} {x1 : Int32} {x2 : Int32} {m : gM} (h : f_X3_declareIn w.2.2.2.2.1 F x0 x1 x2 m = some (rr, rm)) : gV X w 0 0 (gR X w (some (.int rr)) rm) 3 0 [(0, .ref x0), (1, .int x1), (2, .int x2)] [] m := by
  unfold f_X3_declareIn at h
  refine v_aload_n (pc := 0) C 0 0 rfl rfl rfl ?_
  obtain ⟨o1, h⟩ := g_okk h
  obtain ⟨t2, qt2, h⟩ := g_bd h
  refine v_getR (pc := 1) C 1 rfl lf_ScopeGraph_Reader_28.get (g_oB o1) rfl qt2 ?_
  refine v_iload_n (pc := 4) C 2 1 rfl rfl rfl ?_
  refine v_aload_n (pc := 5) C 3 0 rfl rfl rfl ?_
  obtain ⟨t3, qt3, h⟩ := g_bd h
  refine v_getR (pc := 6) C 4 rfl lf_ScopeGraph_Reader_12 (g_oB o1) rfl qt3 ?_
  obtain ⟨o4, h⟩ := g_okk h
  obtain ⟨⟨r6, m5⟩, qm5, h⟩ := g_bd h
  replace h := g_nm (y := m5) (g_nm (y := r6) h rfl) rfl
  refine v_callV (pc := 9) C 5 rfl mf_X2_declare clX2 rfl im_X2_declare lm_ScopeGraph_Reader_137 (c_X2_declare C.2.2.2.2.2.2.2.2.2.2.2 qm5) (by decide) rfl (g_oB o4) (Nat.le_of_ble_eq_true rfl) ⟨Nat.zero_le _, Nat.zero_le _⟩ rfl ?_
  change gV X w 0 0 (gR X w (some (.int rr)) rm) 3 12 [(0, .ref x0), (1, .int x1), (2, .int x2)] [.int r6] m5
  refine v_iconst (pc := 12) C 6 (-1) rfl (by decide) ?_
  refine v_icmp_ne (pc := 13) C 7 20 rfl (by decide) (fun c8 => ?_) (fun c8 => ?_)
  · replace h := g_ifF c8 h
    refine v_aload_n (pc := 20) C 10 0 rfl rfl rfl ?_
    refine v_iload_n (pc := 21) C 11 2 rfl rfl rfl ?_
    obtain ⟨⟨r10, m9⟩, qm9, h⟩ := g_bd h
    replace h := g_nm (y := m9) (g_nm (y := r10) h rfl) rfl
    refine v_callV (pc := 22) C 12 rfl mf_X3_turnTo clX3 rfl im_X3_turnTo lm_ScopeGraph_Reader_70 (c_X3_turnTo C.2.2.2.2.2.2.2.2.2.2.2 qm9) (by decide) rfl (g_oB o1) (Nat.le_of_ble_eq_true rfl) ⟨Nat.zero_le _, Nat.zero_le _⟩ rfl ?_
    change gV X w 0 0 (gR X w (some (.int rr)) rm) 3 25 [(0, .ref x0), (1, .int x1), (2, .int x2)] [.int r10] m9
    obtain ⟨rfl, rfl⟩ := g_so h
    exact v_iret (pc := 25) C 13 rfl hr
  · replace h := g_ifT c8 h
    refine v_iconst (pc := 16) C 8 4 rfl (by decide) ?_
    refine v_goto (pc := 17) C 9 25 rfl (by decide) ?_
    obtain ⟨rfl, rfl⟩ := g_so h
    exact v_iret (pc := 25) C 13 rfl hr
theorem c_X3_declareIn {l : Launch} {w : gW} {rr : Int32} {rm : gM} (hJ : gJok w) {F : Nat} {x0 : Nat} {x1 : Int32} {x2 : Int32} {m : gM} (h : f_X3_declareIn w.2.2.2.2.1 F x0 x1 x2 m = some (rr, rm)) : gMet l 2 yX3_declareIn cX3_declareIn 3 (some .int) w [.ref x0, .int x1, .int x2] m (some (.int rr)) rm :=
  gMet.of hJ mf_X3_declareIn dk_X3_declareIn (Nat.le_of_ble_eq_true rfl) (fun X _ C hr => tf_X3_declareIn (F := F) C hr h)
def b_X3_takeBindName_29 (sh : List gS) (F : Nat) (x0 : Nat) (x2 : Int32) (y0 : Int32) (y1 : Nat) (m : gM) : Option (Int32 × gM) :=
  g_if (oB sh y1 3) (nm (gsI m y1 7 y0) (fun m2 => g_if (oB sh x0 3) ((f_X3_declareIn sh F x0 x2 7 m2).bind (fun q6 => nm q6.1 (fun r5 => nm q6.2 (fun m4 => some (r5, m4)))))))
set_option maxRecDepth 100000 in
set_option maxHeartbeats 4000000 in
theorem tb_X3_takeBindName_29 {X : gX} {w : gW} {rr : Int32} {rm : gM} (C : gC X w K_X3_takeBindName 4 RX3 3) (hr : X.2.2.2.2.2.2.2.2.1.sig.returnType = (some .int)) {F : Nat} {x0 : Nat} {x2 : Int32} {y0 : Int32} {y1 : Nat} {m : gM} (h : b_X3_takeBindName_29 w.2.2.2.2.1 F x0 x2 y0 y1 m = some (rr, rm)) : gV X w 0 0 (gR X w (some (.int rr)) rm) 4 29 [(0, .ref x0), (2, .int x2)] [.int y0, .ref y1] m := by
  unfold b_X3_takeBindName_29 at h
  obtain ⟨o1, h⟩ := g_okk h
  refine v_putI (pc := 29) C 17 rfl lf_ScopeGraph_Reader_47 (g_oB o1) rfl ?_
  refine v_topM (fun m2 em2 => ?_)
  replace h := g_nm h em2
  refine v_aload_n (pc := 32) C 18 0 rfl rfl rfl ?_
  refine v_iload_n (pc := 33) C 19 1 rfl rfl rfl ?_
  refine v_bipush (pc := 34) C 20 7 rfl (by decide) ?_
  obtain ⟨o3, h⟩ := g_okk h
  obtain ⟨⟨r5, m4⟩, qm4, h⟩ := g_bd h
  replace h := g_nm (y := m4) (g_nm (y := r5) h rfl) rfl
  refine v_callV (pc := 36) C 21 rfl mf_X3_declareIn clX3 rfl im_X3_declareIn lm_ScopeGraph_Reader_125 (c_X3_declareIn C.2.2.2.2.2.2.2.2.2.2.2 qm4) (by decide) rfl (g_oB o3) (Nat.le_of_ble_eq_true rfl) ⟨Nat.zero_le _, Nat.zero_le _⟩ rfl ?_
  change gV X w 0 0 (gR X w (some (.int rr)) rm) 4 39 [(0, .ref x0), (2, .int x2)] [.int r5] m4
  obtain ⟨rfl, rfl⟩ := g_so h
  exact v_iret (pc := 39) C 22 rfl hr
def f_X3_takeBindName (sh : List gS) (F : Nat) (x0 : Nat) (m : gM) : Option (Int32 × gM) :=
  g_if (oB sh x0 3) ((f_X3_topFrame sh F x0 m).bind (fun q4 => nm q4.1 (fun r3 => nm q4.2 (fun m2 => (f_X3_topInner sh F x0 m2).bind (fun q7 => nm q7.1 (fun r6 => nm q7.2 (fun m5 => if r3 = (3 : Int32) then ((m5.2.2 x0 4).bind (fun t9 => g_if (oB sh t9 2) ((m5.2.2 t9 0).bind (fun t11 => g_if (oB sh t11 0) (if (m5.1 t11 4) < (60 : Int32) then ((m5.2.2 x0 4).bind (fun t14 => g_if (oB sh t14 2) ((f_X2_makeScope sh F t14 3 r6 m5).bind (fun q18 => nm q18.1 (fun r17 => nm q18.2 (fun m16 => if r17 = ((-1) : Int32) then (some (5, m16)) else (nm (gsI m16 x0 7 r6) (fun m20 => (f_X3_setTop sh F x0 3 r17 m20).bind (fun m21 => (f_X3_declareIn sh F x0 r17 7 m21).bind (fun q25 => nm q25.1 (fun r24 => nm q25.2 (fun m23 => some (r24, m23))))))))))))) else (some (4, m5))))))) else (if r3 = (4 : Int32) then (b_X3_takeBindName_29 sh F x0 r6 r6 x0 m5) else ((f_X3_topOuter sh F x0 m5).bind (fun q29 => nm q29.1 (fun r28 => nm q29.2 (fun m27 => b_X3_takeBindName_29 sh F x0 r6 r28 x0 m27))))))))))))
set_option maxRecDepth 100000 in
set_option maxHeartbeats 4000000 in
theorem tf_X3_takeBindName {X : gX} {w : gW} {rr : Int32} {rm : gM} (C : gC X w K_X3_takeBindName 4 RX3 3) (hr : X.2.2.2.2.2.2.2.2.1.sig.returnType = (some .int)) {F : Nat} {x0 : Nat} {m : gM} (h : f_X3_takeBindName w.2.2.2.2.1 F x0 m = some (rr, rm)) : gV X w 0 0 (gR X w (some (.int rr)) rm) 4 0 [(0, .ref x0)] [] m := by
  unfold f_X3_takeBindName at h
  refine v_aload_n (pc := 0) C 0 0 rfl rfl rfl ?_
  obtain ⟨o1, h⟩ := g_okk h
  obtain ⟨⟨r3, m2⟩, qm2, h⟩ := g_bd h
  replace h := g_nm (y := m2) (g_nm (y := r3) h rfl) rfl
  refine v_callV (pc := 1) C 1 rfl mf_X3_topFrame clX3 rfl im_X3_topFrame lm_ScopeGraph_Reader_86 (c_X3_topFrame C.2.2.2.2.2.2.2.2.2.2.2 qm2) (by decide) rfl (g_oB o1) (Nat.le_of_ble_eq_true rfl) ⟨Nat.zero_le _, Nat.zero_le _⟩ rfl ?_
  change gV X w 0 0 (gR X w (some (.int rr)) rm) 4 4 [(0, .ref x0)] [.int r3] m2
  refine v_istore_n (pc := 4) (lv' := [(1, .int r3), (0, .ref x0)]) C 2 rfl rfl (by decide) rfl ?_
  refine v_aload_n (pc := 5) C 3 1 rfl rfl rfl ?_
  obtain ⟨⟨r6, m5⟩, qm5, h⟩ := g_bd h
  replace h := g_nm (y := m5) (g_nm (y := r6) h rfl) rfl
  refine v_callV (pc := 6) C 4 rfl mf_X3_topInner clX3 rfl im_X3_topInner lm_ScopeGraph_Reader_128 (c_X3_topInner C.2.2.2.2.2.2.2.2.2.2.2 qm5) (by decide) rfl (g_oB o1) (Nat.le_of_ble_eq_true rfl) ⟨Nat.zero_le _, Nat.zero_le _⟩ rfl ?_
  change gV X w 0 0 (gR X w (some (.int rr)) rm) 4 9 [(1, .int r3), (0, .ref x0)] [.int r6] m5
  refine v_istore_n (pc := 9) (lv' := [(2, .int r6), (1, .int r3), (0, .ref x0)]) C 5 rfl rfl (by decide) rfl ?_
  refine v_iload_n (pc := 10) C 6 1 rfl rfl rfl ?_
  refine v_iconst (pc := 11) C 7 3 rfl (by decide) ?_
  refine v_icmp_eq (pc := 12) C 8 40 rfl (by decide) (fun c8 => ?_) (fun c8 => ?_)
  · replace h := g_ifT c8 h
    refine v_aload_n (pc := 40) C 23 2 rfl rfl rfl ?_
    obtain ⟨t9, qt9, h⟩ := g_bd h
    refine v_getR (pc := 41) C 24 rfl lf_ScopeGraph_Reader_28.get (g_oB o1) rfl qt9 ?_
    obtain ⟨o10, h⟩ := g_okk h
    obtain ⟨t11, qt11, h⟩ := g_bd h
    refine v_getR (pc := 44) C 25 rfl lf_ScopeGraph_Reader_165 (g_oB o10) rfl qt11 ?_
    obtain ⟨o12, h⟩ := g_okk h
    refine v_getI (pc := 47) C 26 rfl lf_ScopeGraph_Reader_151.get (g_oB o12) rfl ?_
    refine v_bipush (pc := 50) C 27 60 rfl (by decide) ?_
    refine v_icmp_lt (pc := 52) C 28 57 rfl (by decide) (fun c13 => ?_) (fun c13 => ?_)
    · replace h := g_ifT c13 h
      refine v_aload_n (pc := 57) C 31 2 rfl rfl rfl ?_
      obtain ⟨t14, qt14, h⟩ := g_bd h
      refine v_getR (pc := 58) C 32 rfl lf_ScopeGraph_Reader_28.get (g_oB o1) rfl qt14 ?_
      refine v_iconst (pc := 61) C 33 3 rfl (by decide) ?_
      refine v_iload_n (pc := 62) C 34 0 rfl rfl rfl ?_
      obtain ⟨o15, h⟩ := g_okk h
      obtain ⟨⟨r17, m16⟩, qm16, h⟩ := g_bd h
      replace h := g_nm (y := m16) (g_nm (y := r17) h rfl) rfl
      refine v_callV (pc := 63) C 35 rfl mf_X2_makeScope clX2 rfl im_X2_makeScope lm_ScopeGraph_Reader_103 (c_X2_makeScope C.2.2.2.2.2.2.2.2.2.2.2 qm16) (by decide) rfl (g_oB o15) (Nat.le_of_ble_eq_true rfl) ⟨Nat.zero_le _, Nat.zero_le _⟩ rfl ?_
      change gV X w 0 0 (gR X w (some (.int rr)) rm) 4 66 [(2, .int r6), (1, .int r3), (0, .ref x0)] [.int r17] m16
      refine v_istore_n (pc := 66) (lv' := [(3, .int r17), (2, .int r6), (1, .int r3), (0, .ref x0)]) C 36 rfl rfl (by decide) rfl ?_
      refine v_iload_n (pc := 67) C 37 0 rfl rfl rfl ?_
      refine v_iconst (pc := 68) C 38 (-1) rfl (by decide) ?_
      refine v_icmp_ne (pc := 69) C 39 74 rfl (by decide) (fun c19 => ?_) (fun c19 => ?_)
      · replace h := g_ifF c19 h
        refine v_aload_n (pc := 74) C 42 3 rfl rfl rfl ?_
        refine v_iload_n (pc := 75) C 43 1 rfl rfl rfl ?_
        refine v_putI (pc := 76) C 44 rfl lf_ScopeGraph_Reader_47 (g_oB o1) rfl ?_
        refine v_topM (fun m20 em20 => ?_)
        replace h := g_nm h em20
        refine v_aload_n (pc := 79) C 45 3 rfl rfl rfl ?_
        refine v_iconst (pc := 80) C 46 3 rfl (by decide) ?_
        refine v_iload_n (pc := 81) C 47 0 rfl rfl rfl ?_
        obtain ⟨m21, qm21, h⟩ := g_bd h
        refine v_callV (pc := 82) C 48 rfl mf_X3_setTop clX3 rfl im_X3_setTop lm_ScopeGraph_Reader_168 (c_X3_setTop C.2.2.2.2.2.2.2.2.2.2.2 qm21) (by decide) rfl (g_oB o1) (Nat.le_of_ble_eq_true rfl) ⟨Nat.zero_le _, Nat.zero_le _⟩ rfl ?_
        change gV X w 0 0 (gR X w (some (.int rr)) rm) 4 85 [(3, .int r17), (2, .int r6), (1, .int r3), (0, .ref x0)] [] m21
        refine v_aload_n (pc := 85) C 49 3 rfl rfl rfl ?_
        refine v_iload_n (pc := 86) C 50 0 rfl rfl rfl ?_
        refine v_bipush (pc := 87) C 51 7 rfl (by decide) ?_
        obtain ⟨⟨r24, m23⟩, qm23, h⟩ := g_bd h
        replace h := g_nm (y := m23) (g_nm (y := r24) h rfl) rfl
        refine v_callV (pc := 89) C 52 rfl mf_X3_declareIn clX3 rfl im_X3_declareIn lm_ScopeGraph_Reader_125 (c_X3_declareIn C.2.2.2.2.2.2.2.2.2.2.2 qm23) (by decide) rfl (g_oB o1) (Nat.le_of_ble_eq_true rfl) ⟨Nat.zero_le _, Nat.zero_le _⟩ rfl ?_
        change gV X w 0 0 (gR X w (some (.int rr)) rm) 4 92 [(3, .int r17), (2, .int r6), (1, .int r3), (0, .ref x0)] [.int r24] m23
        obtain ⟨rfl, rfl⟩ := g_so h
        exact v_iret (pc := 92) C 53 rfl hr
      · replace h := g_ifT c19 h
        refine v_iconst (pc := 72) C 40 5 rfl (by decide) ?_
        obtain ⟨rfl, rfl⟩ := g_so h
        exact v_iret (pc := 73) C 41 rfl hr
    · replace h := g_ifF c13 h
      refine v_iconst (pc := 55) C 29 4 rfl (by decide) ?_
      obtain ⟨rfl, rfl⟩ := g_so h
      exact v_iret (pc := 56) C 30 rfl hr
  · replace h := g_ifF c8 h
    refine v_aload_n (pc := 15) C 9 2 rfl rfl rfl ?_
    refine v_iload_n (pc := 16) C 10 1 rfl rfl rfl ?_
    refine v_iconst (pc := 17) C 11 4 rfl (by decide) ?_
    refine v_icmp_ne (pc := 18) C 12 25 rfl (by decide) (fun c26 => ?_) (fun c26 => ?_)
    · replace h := g_ifF c26 h
      refine v_aload_n (pc := 25) C 15 2 rfl rfl rfl ?_
      obtain ⟨⟨r28, m27⟩, qm27, h⟩ := g_bd h
      replace h := g_nm (y := m27) (g_nm (y := r28) h rfl) rfl
      refine v_callV (pc := 26) C 16 rfl mf_X3_topOuter clX3 rfl im_X3_topOuter lm_ScopeGraph_Reader_162 (c_X3_topOuter C.2.2.2.2.2.2.2.2.2.2.2 qm27) (by decide) rfl (g_oB o1) (Nat.le_of_ble_eq_true rfl) ⟨Nat.zero_le _, Nat.zero_le _⟩ rfl ?_
      change gV X w 0 0 (gR X w (some (.int rr)) rm) 4 29 [(2, .int r6), (1, .int r3), (0, .ref x0)] [.int r28, .ref x0] m27
      refine v_sub [(0, .ref x0), (2, .int r6)] [2, 0] rfl ?_
      exact tb_X3_takeBindName_29 (F := F) C hr h
    · replace h := g_ifT c26 h
      refine v_iload_n (pc := 21) C 13 0 rfl rfl rfl ?_
      refine v_goto (pc := 22) C 14 29 rfl (by decide) ?_
      refine v_sub [(0, .ref x0), (2, .int r6)] [2, 0] rfl ?_
      exact tb_X3_takeBindName_29 (F := F) C hr h
theorem c_X3_takeBindName {l : Launch} {w : gW} {rr : Int32} {rm : gM} (hJ : gJok w) {F : Nat} {x0 : Nat} {m : gM} (h : f_X3_takeBindName w.2.2.2.2.1 F x0 m = some (rr, rm)) : gMet l 3 yX3_takeBindName cX3_takeBindName 4 (some .int) w [.ref x0] m (some (.int rr)) rm :=
  gMet.of hJ mf_X3_takeBindName dk_X3_takeBindName (Nat.le_of_ble_eq_true rfl) (fun X _ C hr => tf_X3_takeBindName (F := F) C hr h)
def f_X3_takeImportName (sh : List gS) (F : Nat) (x0 : Nat) (m : gM) : Option (Int32 × gM) :=
  g_if (oB sh x0 3) ((m.2.2 x0 4).bind (fun t2 => g_if (oB sh t2 2) (if (m.1 t2 12) < (6 : Int32) then ((f_X3_push sh F x0 10 (m.1 x0 7) m).bind (fun m5 => (m5.2.2 x0 4).bind (fun t7 => g_if (oB sh t7 2) ((m5.2.2 t7 1).bind (fun t9 => g_if (oB sh t9 0) (nm (gsI m5 x0 9 (m5.1 t9 4)) (fun m11 => (f_X3_takeFirstOfLong sh F x0 m11).bind (fun q14 => nm q14.1 (fun r13 => nm q14.2 (fun m12 => some (r13, m12))))))))))) else (some (4, m)))))
set_option maxRecDepth 100000 in
set_option maxHeartbeats 4000000 in
theorem tf_X3_takeImportName {X : gX} {w : gW} {rr : Int32} {rm : gM} (C : gC X w K_X3_takeImportName 1 RX3 3) (hr : X.2.2.2.2.2.2.2.2.1.sig.returnType = (some .int)) {F : Nat} {x0 : Nat} {m : gM} (h : f_X3_takeImportName w.2.2.2.2.1 F x0 m = some (rr, rm)) : gV X w 0 0 (gR X w (some (.int rr)) rm) 1 0 [(0, .ref x0)] [] m := by
  unfold f_X3_takeImportName at h
  refine v_aload_n (pc := 0) C 0 0 rfl rfl rfl ?_
  obtain ⟨o1, h⟩ := g_okk h
  obtain ⟨t2, qt2, h⟩ := g_bd h
  refine v_getR (pc := 1) C 1 rfl lf_ScopeGraph_Reader_28.get (g_oB o1) rfl qt2 ?_
  obtain ⟨o3, h⟩ := g_okk h
  refine v_getI (pc := 4) C 2 rfl lf_ScopeGraph_Reader_144.get (g_oB o3) rfl ?_
  refine v_bipush (pc := 7) C 3 6 rfl (by decide) ?_
  refine v_icmp_lt (pc := 9) C 4 14 rfl (by decide) (fun c4 => ?_) (fun c4 => ?_)
  · replace h := g_ifT c4 h
    refine v_aload_n (pc := 14) C 7 0 rfl rfl rfl ?_
    refine v_bipush (pc := 15) C 8 10 rfl (by decide) ?_
    refine v_aload_n (pc := 17) C 9 0 rfl rfl rfl ?_
    refine v_getI (pc := 18) C 10 rfl lf_ScopeGraph_Reader_47.get (g_oB o1) rfl ?_
    obtain ⟨m5, qm5, h⟩ := g_bd h
    refine v_callV (pc := 21) C 11 rfl mf_X3_push clX3 rfl im_X3_push lm_ScopeGraph_Reader_95 (c_X3_push C.2.2.2.2.2.2.2.2.2.2.2 qm5) (by decide) rfl (g_oB o1) (Nat.le_of_ble_eq_true rfl) ⟨Nat.zero_le _, Nat.zero_le _⟩ rfl ?_
    change gV X w 0 0 (gR X w (some (.int rr)) rm) 1 24 [(0, .ref x0)] [] m5
    refine v_aload_n (pc := 24) C 12 0 rfl rfl rfl ?_
    refine v_aload_n (pc := 25) C 13 0 rfl rfl rfl ?_
    obtain ⟨t7, qt7, h⟩ := g_bd h
    refine v_getR (pc := 26) C 14 rfl lf_ScopeGraph_Reader_28.get (g_oB o1) rfl qt7 ?_
    obtain ⟨o8, h⟩ := g_okk h
    obtain ⟨t9, qt9, h⟩ := g_bd h
    refine v_getR (pc := 29) C 15 rfl lf_ScopeGraph_Reader_147 (g_oB o8) rfl qt9 ?_
    obtain ⟨o10, h⟩ := g_okk h
    refine v_getI (pc := 32) C 16 rfl lf_ScopeGraph_Reader_151.get (g_oB o10) rfl ?_
    refine v_putI (pc := 35) C 17 rfl lf_ScopeGraph_Reader_156 (g_oB o1) rfl ?_
    refine v_topM (fun m11 em11 => ?_)
    replace h := g_nm h em11
    refine v_aload_n (pc := 38) C 18 0 rfl rfl rfl ?_
    obtain ⟨⟨r13, m12⟩, qm12, h⟩ := g_bd h
    replace h := g_nm (y := m12) (g_nm (y := r13) h rfl) rfl
    refine v_callV (pc := 39) C 19 rfl mf_X3_takeFirstOfLong clX3 rfl im_X3_takeFirstOfLong lm_ScopeGraph_Reader_92 (c_X3_takeFirstOfLong C.2.2.2.2.2.2.2.2.2.2.2 qm12) (by decide) rfl (g_oB o1) (Nat.le_of_ble_eq_true rfl) ⟨Nat.zero_le _, Nat.zero_le _⟩ rfl ?_
    change gV X w 0 0 (gR X w (some (.int rr)) rm) 1 42 [(0, .ref x0)] [.int r13] m12
    obtain ⟨rfl, rfl⟩ := g_so h
    exact v_iret (pc := 42) C 20 rfl hr
  · replace h := g_ifF c4 h
    refine v_iconst (pc := 12) C 5 4 rfl (by decide) ?_
    obtain ⟨rfl, rfl⟩ := g_so h
    exact v_iret (pc := 13) C 6 rfl hr
theorem c_X3_takeImportName {l : Launch} {w : gW} {rr : Int32} {rm : gM} (hJ : gJok w) {F : Nat} {x0 : Nat} {m : gM} (h : f_X3_takeImportName w.2.2.2.2.1 F x0 m = some (rr, rm)) : gMet l 3 yX3_takeImportName cX3_takeImportName 1 (some .int) w [.ref x0] m (some (.int rr)) rm :=
  gMet.of hJ mf_X3_takeImportName dk_X3_takeImportName (Nat.le_of_ble_eq_true rfl) (fun X _ C hr => tf_X3_takeImportName (F := F) C hr h)
def f_X3_takeModuleName (sh : List gS) (F : Nat) (x0 : Nat) (m : gM) : Option (Int32 × gM) :=
  g_if (oB sh x0 3) ((m.2.2 x0 4).bind (fun t2 => (m.2.2 x0 0).bind (fun t3 => g_if (oB sh t2 2) ((f_X2_declare sh F t2 (m.1 x0 7) t3 m).bind (fun q7 => nm q7.1 (fun r6 => nm q7.2 (fun m5 => if r6 = ((-1) : Int32) then (some (4, m5)) else ((m5.2.2 x0 4).bind (fun t9 => g_if (oB sh t9 2) ((f_X2_makeScope sh F t9 1 (m5.1 x0 7) m5).bind (fun q13 => nm q13.1 (fun r12 => nm q13.2 (fun m11 => if r12 = ((-1) : Int32) then (some (5, m11)) else ((m11.2.2 x0 4).bind (fun t15 => g_if (oB sh t15 2) ((m11.2.2 t15 6).bind (fun t17 => g_if (aB sh t17 .int r6) (nm (gsI m11 t17 (r6).toNatClampNeg r12) (fun m19 => (f_X3_push sh F x0 1 r12 m19).bind (fun m20 => nm (gsI m20 x0 7 r12) (fun m22 => (f_X3_turnTo sh F x0 8 m22).bind (fun q25 => nm q25.1 (fun r24 => nm q25.2 (fun m23 => some (r24, m23)))))))))))))))))))))))))
set_option maxRecDepth 100000 in
set_option maxHeartbeats 4000000 in
theorem tf_X3_takeModuleName {X : gX} {w : gW} {rr : Int32} {rm : gM} (C : gC X w K_X3_takeModuleName 3 RX3 2) (hr : X.2.2.2.2.2.2.2.2.1.sig.returnType = (some .int)) {F : Nat} {x0 : Nat} {m : gM} (h : f_X3_takeModuleName w.2.2.2.2.1 F x0 m = some (rr, rm)) : gV X w 0 0 (gR X w (some (.int rr)) rm) 3 0 [(0, .ref x0)] [] m := by
  unfold f_X3_takeModuleName at h
  refine v_aload_n (pc := 0) C 0 0 rfl rfl rfl ?_
  obtain ⟨o1, h⟩ := g_okk h
  obtain ⟨t2, qt2, h⟩ := g_bd h
  refine v_getR (pc := 1) C 1 rfl lf_ScopeGraph_Reader_28.get (g_oB o1) rfl qt2 ?_
  refine v_aload_n (pc := 4) C 2 0 rfl rfl rfl ?_
  refine v_getI (pc := 5) C 3 rfl lf_ScopeGraph_Reader_47.get (g_oB o1) rfl ?_
  refine v_aload_n (pc := 8) C 4 0 rfl rfl rfl ?_
  obtain ⟨t3, qt3, h⟩ := g_bd h
  refine v_getR (pc := 9) C 5 rfl lf_ScopeGraph_Reader_12 (g_oB o1) rfl qt3 ?_
  obtain ⟨o4, h⟩ := g_okk h
  obtain ⟨⟨r6, m5⟩, qm5, h⟩ := g_bd h
  replace h := g_nm (y := m5) (g_nm (y := r6) h rfl) rfl
  refine v_callV (pc := 12) C 6 rfl mf_X2_declare clX2 rfl im_X2_declare lm_ScopeGraph_Reader_137 (c_X2_declare C.2.2.2.2.2.2.2.2.2.2.2 qm5) (by decide) rfl (g_oB o4) (Nat.le_of_ble_eq_true rfl) ⟨Nat.zero_le _, Nat.zero_le _⟩ rfl ?_
  change gV X w 0 0 (gR X w (some (.int rr)) rm) 3 15 [(0, .ref x0)] [.int r6] m5
  refine v_istore_n (pc := 15) (lv' := [(1, .int r6), (0, .ref x0)]) C 7 rfl rfl (by decide) rfl ?_
  refine v_iload_n (pc := 16) C 8 0 rfl rfl rfl ?_
  refine v_iconst (pc := 17) C 9 (-1) rfl (by decide) ?_
  refine v_icmp_ne (pc := 18) C 10 23 rfl (by decide) (fun c8 => ?_) (fun c8 => ?_)
  · replace h := g_ifF c8 h
    refine v_aload_n (pc := 23) C 13 1 rfl rfl rfl ?_
    obtain ⟨t9, qt9, h⟩ := g_bd h
    refine v_getR (pc := 24) C 14 rfl lf_ScopeGraph_Reader_28.get (g_oB o1) rfl qt9 ?_
    refine v_iconst (pc := 27) C 15 1 rfl (by decide) ?_
    refine v_aload_n (pc := 28) C 16 1 rfl rfl rfl ?_
    refine v_getI (pc := 29) C 17 rfl lf_ScopeGraph_Reader_47.get (g_oB o1) rfl ?_
    obtain ⟨o10, h⟩ := g_okk h
    obtain ⟨⟨r12, m11⟩, qm11, h⟩ := g_bd h
    replace h := g_nm (y := m11) (g_nm (y := r12) h rfl) rfl
    refine v_callV (pc := 32) C 18 rfl mf_X2_makeScope clX2 rfl im_X2_makeScope lm_ScopeGraph_Reader_103 (c_X2_makeScope C.2.2.2.2.2.2.2.2.2.2.2 qm11) (by decide) rfl (g_oB o10) (Nat.le_of_ble_eq_true rfl) ⟨Nat.zero_le _, Nat.zero_le _⟩ rfl ?_
    change gV X w 0 0 (gR X w (some (.int rr)) rm) 3 35 [(1, .int r6), (0, .ref x0)] [.int r12] m11
    refine v_istore_n (pc := 35) (lv' := [(2, .int r12), (1, .int r6), (0, .ref x0)]) C 19 rfl rfl (by decide) rfl ?_
    refine v_iload_n (pc := 36) C 20 0 rfl rfl rfl ?_
    refine v_iconst (pc := 37) C 21 (-1) rfl (by decide) ?_
    refine v_icmp_ne (pc := 38) C 22 43 rfl (by decide) (fun c14 => ?_) (fun c14 => ?_)
    · replace h := g_ifF c14 h
      refine v_aload_n (pc := 43) C 25 2 rfl rfl rfl ?_
      obtain ⟨t15, qt15, h⟩ := g_bd h
      refine v_getR (pc := 44) C 26 rfl lf_ScopeGraph_Reader_28.get (g_oB o1) rfl qt15 ?_
      obtain ⟨o16, h⟩ := g_okk h
      obtain ⟨t17, qt17, h⟩ := g_bd h
      refine v_getR (pc := 47) C 27 rfl lf_ScopeGraph_Reader_141 (g_oB o16) rfl qt17 ?_
      refine v_iload_n (pc := 50) C 28 1 rfl rfl rfl ?_
      refine v_iload_n (pc := 51) C 29 0 rfl rfl rfl ?_
      obtain ⟨b18, h⟩ := g_okk h
      refine v_iast' (pc := 52) C 30 rfl b18 ?_
      refine v_topM (fun m19 em19 => ?_)
      replace h := g_nm h em19
      refine v_aload_n (pc := 53) C 31 2 rfl rfl rfl ?_
      refine v_iconst (pc := 54) C 32 1 rfl (by decide) ?_
      refine v_iload_n (pc := 55) C 33 0 rfl rfl rfl ?_
      obtain ⟨m20, qm20, h⟩ := g_bd h
      refine v_callV (pc := 56) C 34 rfl mf_X3_push clX3 rfl im_X3_push lm_ScopeGraph_Reader_95 (c_X3_push C.2.2.2.2.2.2.2.2.2.2.2 qm20) (by decide) rfl (g_oB o1) (Nat.le_of_ble_eq_true rfl) ⟨Nat.zero_le _, Nat.zero_le _⟩ rfl ?_
      change gV X w 0 0 (gR X w (some (.int rr)) rm) 3 59 [(2, .int r12), (1, .int r6), (0, .ref x0)] [] m20
      refine v_aload_n (pc := 59) C 35 2 rfl rfl rfl ?_
      refine v_iload_n (pc := 60) C 36 0 rfl rfl rfl ?_
      refine v_putI (pc := 61) C 37 rfl lf_ScopeGraph_Reader_47 (g_oB o1) rfl ?_
      refine v_topM (fun m22 em22 => ?_)
      replace h := g_nm h em22
      refine v_aload_n (pc := 64) C 38 2 rfl rfl rfl ?_
      refine v_bipush (pc := 65) C 39 8 rfl (by decide) ?_
      obtain ⟨⟨r24, m23⟩, qm23, h⟩ := g_bd h
      replace h := g_nm (y := m23) (g_nm (y := r24) h rfl) rfl
      refine v_callV (pc := 67) C 40 rfl mf_X3_turnTo clX3 rfl im_X3_turnTo lm_ScopeGraph_Reader_70 (c_X3_turnTo C.2.2.2.2.2.2.2.2.2.2.2 qm23) (by decide) rfl (g_oB o1) (Nat.le_of_ble_eq_true rfl) ⟨Nat.zero_le _, Nat.zero_le _⟩ rfl ?_
      change gV X w 0 0 (gR X w (some (.int rr)) rm) 3 70 [(2, .int r12), (1, .int r6), (0, .ref x0)] [.int r24] m23
      obtain ⟨rfl, rfl⟩ := g_so h
      exact v_iret (pc := 70) C 41 rfl hr
    · replace h := g_ifT c14 h
      refine v_iconst (pc := 41) C 23 5 rfl (by decide) ?_
      obtain ⟨rfl, rfl⟩ := g_so h
      exact v_iret (pc := 42) C 24 rfl hr
  · replace h := g_ifT c8 h
    refine v_iconst (pc := 21) C 11 4 rfl (by decide) ?_
    obtain ⟨rfl, rfl⟩ := g_so h
    exact v_iret (pc := 22) C 12 rfl hr
theorem c_X3_takeModuleName {l : Launch} {w : gW} {rr : Int32} {rm : gM} (hJ : gJok w) {F : Nat} {x0 : Nat} {m : gM} (h : f_X3_takeModuleName w.2.2.2.2.1 F x0 m = some (rr, rm)) : gMet l 2 yX3_takeModuleName cX3_takeModuleName 3 (some .int) w [.ref x0] m (some (.int rr)) rm :=
  gMet.of hJ mf_X3_takeModuleName dk_X3_takeModuleName (Nat.le_of_ble_eq_true rfl) (fun X _ C hr => tf_X3_takeModuleName (F := F) C hr h)
def f_X3_takeNextOfLong (sh : List gS) (F : Nat) (x0 : Nat) (m : gM) : Option (Int32 × gM) :=
  g_if (oB sh x0 3) ((m.2.2 x0 4).bind (fun t2 => g_if (oB sh t2 2) ((m.2.2 t2 1).bind (fun t4 => g_if (oB sh t4 0) (nm ((m.1 t4 4) - (1 : Int32)) (fun v6 => if v6 < 0 then (some (4, m)) else (if (v6 + (1 : Int32)) < (100 : Int32) then ((m.2.2 x0 4).bind (fun t9 => g_if (oB sh t9 2) ((f_X2_makeScope sh F t9 6 (-1) m).bind (fun q13 => nm q13.1 (fun r12 => nm q13.2 (fun m11 => if r12 = ((-1) : Int32) then (some (5, m11)) else ((m11.2.2 x0 4).bind (fun t15 => g_if (oB sh t15 2) ((m11.2.2 t15 7).bind (fun t17 => g_if (aB sh t17 .int v6) (nm (gsI m11 t17 (v6).toNatClampNeg r12) (fun m19 => (m19.2.2 x0 4).bind (fun t20 => (m19.2.2 x0 0).bind (fun t21 => g_if (oB sh t20 2) ((f_X2_refer sh F t20 r12 t21 m19).bind (fun q25 => nm q25.1 (fun r24 => nm q25.2 (fun m23 => (f_X3_turnTo sh F x0 11 m23).bind (fun q28 => nm q28.1 (fun r27 => nm q28.2 (fun m26 => some (r27, m26)))))))))))))))))))))) else (some (4, m)))))))))
set_option maxRecDepth 100000 in
set_option maxHeartbeats 4000000 in
theorem tf_X3_takeNextOfLong {X : gX} {w : gW} {rr : Int32} {rm : gM} (C : gC X w K_X3_takeNextOfLong 3 RX3 2) (hr : X.2.2.2.2.2.2.2.2.1.sig.returnType = (some .int)) {F : Nat} {x0 : Nat} {m : gM} (h : f_X3_takeNextOfLong w.2.2.2.2.1 F x0 m = some (rr, rm)) : gV X w 0 0 (gR X w (some (.int rr)) rm) 3 0 [(0, .ref x0)] [] m := by
  unfold f_X3_takeNextOfLong at h
  refine v_aload_n (pc := 0) C 0 0 rfl rfl rfl ?_
  obtain ⟨o1, h⟩ := g_okk h
  obtain ⟨t2, qt2, h⟩ := g_bd h
  refine v_getR (pc := 1) C 1 rfl lf_ScopeGraph_Reader_28.get (g_oB o1) rfl qt2 ?_
  obtain ⟨o3, h⟩ := g_okk h
  obtain ⟨t4, qt4, h⟩ := g_bd h
  refine v_getR (pc := 4) C 2 rfl lf_ScopeGraph_Reader_147 (g_oB o3) rfl qt4 ?_
  obtain ⟨o5, h⟩ := g_okk h
  refine v_getI (pc := 7) C 3 rfl lf_ScopeGraph_Reader_151.get (g_oB o5) rfl ?_
  refine v_iconst (pc := 10) C 4 1 rfl (by decide) ?_
  refine v_isub (pc := 11) C 5 rfl ?_
  refine v_topI (fun v6 ev6 => ?_)
  replace h := g_nm h ev6
  refine v_istore_n (pc := 12) (lv' := [(1, .int v6), (0, .ref x0)]) C 6 rfl rfl (by decide) rfl ?_
  refine v_iload_n (pc := 13) C 7 0 rfl rfl rfl ?_
  refine v_if_lt (pc := 14) C 8 25 rfl (by decide) (fun c7 => ?_) (fun c7 => ?_)
  · replace h := g_ifT c7 h
    refine v_iconst (pc := 25) C 14 4 rfl (by decide) ?_
    obtain ⟨rfl, rfl⟩ := g_so h
    exact v_iret (pc := 26) C 15 rfl hr
  · replace h := g_ifF c7 h
    refine v_iload_n (pc := 17) C 9 0 rfl rfl rfl ?_
    refine v_iconst (pc := 18) C 10 1 rfl (by decide) ?_
    refine v_iadd (pc := 19) C 11 rfl ?_
    refine v_bipush (pc := 20) C 12 100 rfl (by decide) ?_
    refine v_icmp_lt (pc := 22) C 13 27 rfl (by decide) (fun c8 => ?_) (fun c8 => ?_)
    · replace h := g_ifT c8 h
      refine v_aload_n (pc := 27) C 16 1 rfl rfl rfl ?_
      obtain ⟨t9, qt9, h⟩ := g_bd h
      refine v_getR (pc := 28) C 17 rfl lf_ScopeGraph_Reader_28.get (g_oB o1) rfl qt9 ?_
      refine v_bipush (pc := 31) C 18 6 rfl (by decide) ?_
      refine v_iconst (pc := 33) C 19 (-1) rfl (by decide) ?_
      obtain ⟨o10, h⟩ := g_okk h
      obtain ⟨⟨r12, m11⟩, qm11, h⟩ := g_bd h
      replace h := g_nm (y := m11) (g_nm (y := r12) h rfl) rfl
      refine v_callV (pc := 34) C 20 rfl mf_X2_makeScope clX2 rfl im_X2_makeScope lm_ScopeGraph_Reader_103 (c_X2_makeScope C.2.2.2.2.2.2.2.2.2.2.2 qm11) (by decide) rfl (g_oB o10) (Nat.le_of_ble_eq_true rfl) ⟨Nat.zero_le _, Nat.zero_le _⟩ rfl ?_
      change gV X w 0 0 (gR X w (some (.int rr)) rm) 3 37 [(1, .int v6), (0, .ref x0)] [.int r12] m11
      refine v_istore_n (pc := 37) (lv' := [(2, .int r12), (1, .int v6), (0, .ref x0)]) C 21 rfl rfl (by decide) rfl ?_
      refine v_iload_n (pc := 38) C 22 0 rfl rfl rfl ?_
      refine v_iconst (pc := 39) C 23 (-1) rfl (by decide) ?_
      refine v_icmp_ne (pc := 40) C 24 45 rfl (by decide) (fun c14 => ?_) (fun c14 => ?_)
      · replace h := g_ifF c14 h
        refine v_aload_n (pc := 45) C 27 2 rfl rfl rfl ?_
        obtain ⟨t15, qt15, h⟩ := g_bd h
        refine v_getR (pc := 46) C 28 rfl lf_ScopeGraph_Reader_28.get (g_oB o1) rfl qt15 ?_
        obtain ⟨o16, h⟩ := g_okk h
        obtain ⟨t17, qt17, h⟩ := g_bd h
        refine v_getR (pc := 49) C 29 rfl lf_ScopeGraph_Reader_174 (g_oB o16) rfl qt17 ?_
        refine v_iload_n (pc := 52) C 30 1 rfl rfl rfl ?_
        refine v_iload_n (pc := 53) C 31 0 rfl rfl rfl ?_
        obtain ⟨b18, h⟩ := g_okk h
        refine v_iast' (pc := 54) C 32 rfl b18 ?_
        refine v_topM (fun m19 em19 => ?_)
        replace h := g_nm h em19
        refine v_aload_n (pc := 55) C 33 2 rfl rfl rfl ?_
        obtain ⟨t20, qt20, h⟩ := g_bd h
        refine v_getR (pc := 56) C 34 rfl lf_ScopeGraph_Reader_28.get (g_oB o1) rfl qt20 ?_
        refine v_iload_n (pc := 59) C 35 0 rfl rfl rfl ?_
        refine v_aload_n (pc := 60) C 36 2 rfl rfl rfl ?_
        obtain ⟨t21, qt21, h⟩ := g_bd h
        refine v_getR (pc := 61) C 37 rfl lf_ScopeGraph_Reader_12 (g_oB o1) rfl qt21 ?_
        obtain ⟨o22, h⟩ := g_okk h
        obtain ⟨⟨r24, m23⟩, qm23, h⟩ := g_bd h
        replace h := g_nm (y := m23) (g_nm (y := r24) h rfl) rfl
        refine v_callV (pc := 64) C 38 rfl mf_X2_refer clX2 rfl im_X2_refer lm_ScopeGraph_Reader_171 (c_X2_refer C.2.2.2.2.2.2.2.2.2.2.2 qm23) (by decide) rfl (g_oB o22) (Nat.le_of_ble_eq_true rfl) ⟨Nat.zero_le _, Nat.zero_le _⟩ rfl ?_
        change gV X w 0 0 (gR X w (some (.int rr)) rm) 3 67 [(2, .int r12), (1, .int v6), (0, .ref x0)] [.int r24] m23
        refine v_pop (pc := 67) C 39 rfl rfl ?_
        refine v_aload_n (pc := 68) C 40 2 rfl rfl rfl ?_
        refine v_bipush (pc := 69) C 41 11 rfl (by decide) ?_
        obtain ⟨⟨r27, m26⟩, qm26, h⟩ := g_bd h
        replace h := g_nm (y := m26) (g_nm (y := r27) h rfl) rfl
        refine v_callV (pc := 71) C 42 rfl mf_X3_turnTo clX3 rfl im_X3_turnTo lm_ScopeGraph_Reader_70 (c_X3_turnTo C.2.2.2.2.2.2.2.2.2.2.2 qm26) (by decide) rfl (g_oB o1) (Nat.le_of_ble_eq_true rfl) ⟨Nat.zero_le _, Nat.zero_le _⟩ rfl ?_
        change gV X w 0 0 (gR X w (some (.int rr)) rm) 3 74 [(2, .int r12), (1, .int v6), (0, .ref x0)] [.int r27] m26
        obtain ⟨rfl, rfl⟩ := g_so h
        exact v_iret (pc := 74) C 43 rfl hr
      · replace h := g_ifT c14 h
        refine v_iconst (pc := 43) C 25 5 rfl (by decide) ?_
        obtain ⟨rfl, rfl⟩ := g_so h
        exact v_iret (pc := 44) C 26 rfl hr
    · replace h := g_ifF c8 h
      refine v_iconst (pc := 25) C 14 4 rfl (by decide) ?_
      obtain ⟨rfl, rfl⟩ := g_so h
      exact v_iret (pc := 26) C 15 rfl hr
theorem c_X3_takeNextOfLong {l : Launch} {w : gW} {rr : Int32} {rm : gM} (hJ : gJok w) {F : Nat} {x0 : Nat} {m : gM} (h : f_X3_takeNextOfLong w.2.2.2.2.1 F x0 m = some (rr, rm)) : gMet l 2 yX3_takeNextOfLong cX3_takeNextOfLong 3 (some .int) w [.ref x0] m (some (.int rr)) rm :=
  gMet.of hJ mf_X3_takeNextOfLong dk_X3_takeNextOfLong (Nat.le_of_ble_eq_true rfl) (fun X _ C hr => tf_X3_takeNextOfLong (F := F) C hr h)
def f_X3_takeName (sh : List gS) (F : Nat) (x0 : Nat) (m : gM) : Option (Int32 × gM) :=
  g_if (oB sh x0 3) (if (m.1 x0 8) = 1 then ((f_X3_takeModuleName sh F x0 m).bind (fun q5 => nm q5.1 (fun r4 => nm q5.2 (fun m3 => some (r4, m3))))) else (if (m.1 x0 8) = 2 then ((f_X3_takeImportName sh F x0 m).bind (fun q9 => nm q9.1 (fun r8 => nm q9.2 (fun m7 => some (r8, m7))))) else (if (m.1 x0 8) = 3 then ((f_X3_push sh F x0 11 (m.1 x0 7) m).bind (fun m11 => (f_X3_declareIn sh F x0 (m11.1 x0 7) 7 m11).bind (fun q15 => nm q15.1 (fun r14 => nm q15.2 (fun m13 => some (r14, m13)))))) else (if (m.1 x0 8) = 4 then ((f_X3_topInner sh F x0 m).bind (fun q19 => nm q19.1 (fun r18 => nm q19.2 (fun m17 => nm (gsI m17 x0 7 r18) (fun m20 => (f_X3_declareIn sh F x0 (m20.1 x0 7) 9 m20).bind (fun q23 => nm q23.1 (fun r22 => nm q23.2 (fun m21 => some (r22, m21))))))))) else (if (m.1 x0 8) = 5 then ((f_X3_takeBindName sh F x0 m).bind (fun q27 => nm q27.1 (fun r26 => nm q27.2 (fun m25 => some (r26, m25))))) else ((f_X3_takeNextOfLong sh F x0 m).bind (fun q30 => nm q30.1 (fun r29 => nm q30.2 (fun m28 => some (r29, m28))))))))))
set_option maxRecDepth 100000 in
set_option maxHeartbeats 4000000 in
theorem tf_X3_takeName {X : gX} {w : gW} {rr : Int32} {rm : gM} (C : gC X w K_X3_takeName 1 RX3 4) (hr : X.2.2.2.2.2.2.2.2.1.sig.returnType = (some .int)) {F : Nat} {x0 : Nat} {m : gM} (h : f_X3_takeName w.2.2.2.2.1 F x0 m = some (rr, rm)) : gV X w 0 0 (gR X w (some (.int rr)) rm) 1 0 [(0, .ref x0)] [] m := by
  unfold f_X3_takeName at h
  refine v_aload_n (pc := 0) C 0 0 rfl rfl rfl ?_
  obtain ⟨o1, h⟩ := g_okk h
  refine v_getI (pc := 1) C 1 rfl lf_ScopeGraph_Reader_50.get (g_oB o1) rfl ?_
  by_cases c2 : (m.1 x0 8) = 1
  · replace h := g_ifT c2 h
    refine v_tableIn (pc := 4) C 2 40 rfl (by rw [c2]; decide) (by rw [c2]; decide) (by rw [c2]; rfl) (by decide) ?_
    refine v_aload_n (pc := 40) C 3 0 rfl rfl rfl ?_
    obtain ⟨⟨r4, m3⟩, qm3, h⟩ := g_bd h
    replace h := g_nm (y := m3) (g_nm (y := r4) h rfl) rfl
    refine v_callV (pc := 41) C 4 rfl mf_X3_takeModuleName clX3 rfl im_X3_takeModuleName lm_ScopeGraph_Reader_119 (c_X3_takeModuleName C.2.2.2.2.2.2.2.2.2.2.2 qm3) (by decide) rfl (g_oB o1) (Nat.le_of_ble_eq_true rfl) ⟨Nat.zero_le _, Nat.zero_le _⟩ rfl ?_
    change gV X w 0 0 (gR X w (some (.int rr)) rm) 1 44 [(0, .ref x0)] [.int r4] m3
    obtain ⟨rfl, rfl⟩ := g_so h
    exact v_iret (pc := 44) C 5 rfl hr
  · replace h := g_ifF c2 h
    have zc2 := g_tne (n := 1) (by decide) c2
    by_cases c6 : (m.1 x0 8) = 2
    · replace h := g_ifT c6 h
      refine v_tableIn (pc := 4) C 2 45 rfl (by rw [c6]; decide) (by rw [c6]; decide) (by rw [c6]; rfl) (by decide) ?_
      refine v_aload_n (pc := 45) C 6 0 rfl rfl rfl ?_
      obtain ⟨⟨r8, m7⟩, qm7, h⟩ := g_bd h
      replace h := g_nm (y := m7) (g_nm (y := r8) h rfl) rfl
      refine v_callV (pc := 46) C 7 rfl mf_X3_takeImportName clX3 rfl im_X3_takeImportName lm_ScopeGraph_Reader_122 (c_X3_takeImportName C.2.2.2.2.2.2.2.2.2.2.2 qm7) (by decide) rfl (g_oB o1) (Nat.le_of_ble_eq_true rfl) ⟨Nat.zero_le _, Nat.zero_le _⟩ rfl ?_
      change gV X w 0 0 (gR X w (some (.int rr)) rm) 1 49 [(0, .ref x0)] [.int r8] m7
      obtain ⟨rfl, rfl⟩ := g_so h
      exact v_iret (pc := 49) C 8 rfl hr
    · replace h := g_ifF c6 h
      have zc6 := g_tne (n := 2) (by decide) c6
      by_cases c10 : (m.1 x0 8) = 3
      · replace h := g_ifT c10 h
        refine v_tableIn (pc := 4) C 2 50 rfl (by rw [c10]; decide) (by rw [c10]; decide) (by rw [c10]; rfl) (by decide) ?_
        refine v_aload_n (pc := 50) C 9 0 rfl rfl rfl ?_
        refine v_bipush (pc := 51) C 10 11 rfl (by decide) ?_
        refine v_aload_n (pc := 53) C 11 0 rfl rfl rfl ?_
        refine v_getI (pc := 54) C 12 rfl lf_ScopeGraph_Reader_47.get (g_oB o1) rfl ?_
        obtain ⟨m11, qm11, h⟩ := g_bd h
        refine v_callV (pc := 57) C 13 rfl mf_X3_push clX3 rfl im_X3_push lm_ScopeGraph_Reader_95 (c_X3_push C.2.2.2.2.2.2.2.2.2.2.2 qm11) (by decide) rfl (g_oB o1) (Nat.le_of_ble_eq_true rfl) ⟨Nat.zero_le _, Nat.zero_le _⟩ rfl ?_
        change gV X w 0 0 (gR X w (some (.int rr)) rm) 1 60 [(0, .ref x0)] [] m11
        refine v_aload_n (pc := 60) C 14 0 rfl rfl rfl ?_
        refine v_aload_n (pc := 61) C 15 0 rfl rfl rfl ?_
        refine v_getI (pc := 62) C 16 rfl lf_ScopeGraph_Reader_47.get (g_oB o1) rfl ?_
        refine v_bipush (pc := 65) C 17 7 rfl (by decide) ?_
        obtain ⟨⟨r14, m13⟩, qm13, h⟩ := g_bd h
        replace h := g_nm (y := m13) (g_nm (y := r14) h rfl) rfl
        refine v_callV (pc := 67) C 18 rfl mf_X3_declareIn clX3 rfl im_X3_declareIn lm_ScopeGraph_Reader_125 (c_X3_declareIn C.2.2.2.2.2.2.2.2.2.2.2 qm13) (by decide) rfl (g_oB o1) (Nat.le_of_ble_eq_true rfl) ⟨Nat.zero_le _, Nat.zero_le _⟩ rfl ?_
        change gV X w 0 0 (gR X w (some (.int rr)) rm) 1 70 [(0, .ref x0)] [.int r14] m13
        obtain ⟨rfl, rfl⟩ := g_so h
        exact v_iret (pc := 70) C 19 rfl hr
      · replace h := g_ifF c10 h
        have zc10 := g_tne (n := 3) (by decide) c10
        by_cases c16 : (m.1 x0 8) = 4
        · replace h := g_ifT c16 h
          refine v_tableIn (pc := 4) C 2 71 rfl (by rw [c16]; decide) (by rw [c16]; decide) (by rw [c16]; rfl) (by decide) ?_
          refine v_aload_n (pc := 71) C 20 0 rfl rfl rfl ?_
          refine v_aload_n (pc := 72) C 21 0 rfl rfl rfl ?_
          obtain ⟨⟨r18, m17⟩, qm17, h⟩ := g_bd h
          replace h := g_nm (y := m17) (g_nm (y := r18) h rfl) rfl
          refine v_callV (pc := 73) C 22 rfl mf_X3_topInner clX3 rfl im_X3_topInner lm_ScopeGraph_Reader_128 (c_X3_topInner C.2.2.2.2.2.2.2.2.2.2.2 qm17) (by decide) rfl (g_oB o1) (Nat.le_of_ble_eq_true rfl) ⟨Nat.zero_le _, Nat.zero_le _⟩ rfl ?_
          change gV X w 0 0 (gR X w (some (.int rr)) rm) 1 76 [(0, .ref x0)] [.int r18, .ref x0] m17
          refine v_putI (pc := 76) C 23 rfl lf_ScopeGraph_Reader_47 (g_oB o1) rfl ?_
          refine v_topM (fun m20 em20 => ?_)
          replace h := g_nm h em20
          refine v_aload_n (pc := 79) C 24 0 rfl rfl rfl ?_
          refine v_aload_n (pc := 80) C 25 0 rfl rfl rfl ?_
          refine v_getI (pc := 81) C 26 rfl lf_ScopeGraph_Reader_47.get (g_oB o1) rfl ?_
          refine v_bipush (pc := 84) C 27 9 rfl (by decide) ?_
          obtain ⟨⟨r22, m21⟩, qm21, h⟩ := g_bd h
          replace h := g_nm (y := m21) (g_nm (y := r22) h rfl) rfl
          refine v_callV (pc := 86) C 28 rfl mf_X3_declareIn clX3 rfl im_X3_declareIn lm_ScopeGraph_Reader_125 (c_X3_declareIn C.2.2.2.2.2.2.2.2.2.2.2 qm21) (by decide) rfl (g_oB o1) (Nat.le_of_ble_eq_true rfl) ⟨Nat.zero_le _, Nat.zero_le _⟩ rfl ?_
          change gV X w 0 0 (gR X w (some (.int rr)) rm) 1 89 [(0, .ref x0)] [.int r22] m21
          obtain ⟨rfl, rfl⟩ := g_so h
          exact v_iret (pc := 89) C 29 rfl hr
        · replace h := g_ifF c16 h
          have zc16 := g_tne (n := 4) (by decide) c16
          by_cases c24 : (m.1 x0 8) = 5
          · replace h := g_ifT c24 h
            refine v_tableIn (pc := 4) C 2 90 rfl (by rw [c24]; decide) (by rw [c24]; decide) (by rw [c24]; rfl) (by decide) ?_
            refine v_aload_n (pc := 90) C 30 0 rfl rfl rfl ?_
            obtain ⟨⟨r26, m25⟩, qm25, h⟩ := g_bd h
            replace h := g_nm (y := m25) (g_nm (y := r26) h rfl) rfl
            refine v_callV (pc := 91) C 31 rfl mf_X3_takeBindName clX3 rfl im_X3_takeBindName lm_ScopeGraph_Reader_131 (c_X3_takeBindName C.2.2.2.2.2.2.2.2.2.2.2 qm25) (by decide) rfl (g_oB o1) (Nat.le_of_ble_eq_true rfl) ⟨Nat.zero_le _, Nat.zero_le _⟩ rfl ?_
            change gV X w 0 0 (gR X w (some (.int rr)) rm) 1 94 [(0, .ref x0)] [.int r26] m25
            obtain ⟨rfl, rfl⟩ := g_so h
            exact v_iret (pc := 94) C 32 rfl hr
          · replace h := g_ifF c24 h
            have zc24 := g_tne (n := 5) (by decide) c24
            refine v_tableOut (pc := 4) C 2 95 rfl (by omega) (by decide) ?_
            refine v_aload_n (pc := 95) C 33 0 rfl rfl rfl ?_
            obtain ⟨⟨r29, m28⟩, qm28, h⟩ := g_bd h
            replace h := g_nm (y := m28) (g_nm (y := r29) h rfl) rfl
            refine v_callV (pc := 96) C 34 rfl mf_X3_takeNextOfLong clX3 rfl im_X3_takeNextOfLong lm_ScopeGraph_Reader_134 (c_X3_takeNextOfLong C.2.2.2.2.2.2.2.2.2.2.2 qm28) (by decide) rfl (g_oB o1) (Nat.le_of_ble_eq_true rfl) ⟨Nat.zero_le _, Nat.zero_le _⟩ rfl ?_
            change gV X w 0 0 (gR X w (some (.int rr)) rm) 1 99 [(0, .ref x0)] [.int r29] m28
            obtain ⟨rfl, rfl⟩ := g_so h
            exact v_iret (pc := 99) C 35 rfl hr
theorem c_X3_takeName {l : Launch} {w : gW} {rr : Int32} {rm : gM} (hJ : gJok w) {F : Nat} {x0 : Nat} {m : gM} (h : f_X3_takeName w.2.2.2.2.1 F x0 m = some (rr, rm)) : gMet l 4 yX3_takeName cX3_takeName 1 (some .int) w [.ref x0] m (some (.int rr)) rm :=
  gMet.of hJ mf_X3_takeName dk_X3_takeName (Nat.le_of_ble_eq_true rfl) (fun X _ C hr => tf_X3_takeName (F := F) C hr h)
def b_X3_take_161 (sh : List gS) (F : Nat) (x0 : Nat) (x1 : Int32) (m : gM) : Option (Int32 × gM) :=
  if x1 = (264 : Int32) then (g_if (oB sh x0 3) ((f_X3_takeName sh F x0 m).bind (fun q5 => nm q5.1 (fun r4 => nm q5.2 (fun m3 => some (r4, m3)))))) else (some (2, m))
set_option maxRecDepth 100000 in
set_option maxHeartbeats 4000000 in
theorem tb_X3_take_161 {X : gX} {w : gW} {rr : Int32} {rm : gM} (C : gC X w K_X3_take 2 RX3 5) (hr : X.2.2.2.2.2.2.2.2.1.sig.returnType = (some .int)) {F : Nat} {x0 : Nat} {x1 : Int32} {m : gM} (h : b_X3_take_161 w.2.2.2.2.1 F x0 x1 m = some (rr, rm)) : gV X w 0 0 (gR X w (some (.int rr)) rm) 2 161 [(0, .ref x0), (1, .int x1)] [] m := by
  unfold b_X3_take_161 at h
  refine v_iload_n (pc := 161) C 53 1 rfl rfl rfl ?_
  refine v_sipush (pc := 162) C 54 264 rfl (by decide) ?_
  refine v_icmp_ne (pc := 165) C 55 175 rfl (by decide) (fun c1 => ?_) (fun c1 => ?_)
  · replace h := g_ifF c1 h
    refine v_iconst (pc := 175) C 59 2 rfl (by decide) ?_
    obtain ⟨rfl, rfl⟩ := g_so h
    exact v_iret (pc := 176) C 60 rfl hr
  · replace h := g_ifT c1 h
    refine v_aload_n (pc := 168) C 56 0 rfl rfl rfl ?_
    obtain ⟨o2, h⟩ := g_okk h
    obtain ⟨⟨r4, m3⟩, qm3, h⟩ := g_bd h
    replace h := g_nm (y := m3) (g_nm (y := r4) h rfl) rfl
    refine v_callV (pc := 169) C 57 rfl mf_X3_takeName clX3 rfl im_X3_takeName lm_ScopeGraph_Reader_82 (c_X3_takeName C.2.2.2.2.2.2.2.2.2.2.2 qm3) (by decide) rfl (g_oB o2) (Nat.le_of_ble_eq_true rfl) ⟨Nat.zero_le _, Nat.zero_le _⟩ rfl ?_
    change gV X w 0 0 (gR X w (some (.int rr)) rm) 2 172 [(0, .ref x0), (1, .int x1)] [.int r4] m3
    refine v_goto (pc := 172) C 58 176 rfl (by decide) ?_
    obtain ⟨rfl, rfl⟩ := g_so h
    exact v_iret (pc := 176) C 60 rfl hr
def f_X3_take (sh : List gS) (F : Nat) (x0 : Nat) (x1 : Int32) (m : gM) : Option (Int32 × gM) :=
  g_if (oB sh x0 3) (if (m.1 x0 8) = 0 then ((f_X3_takeDec sh F x0 x1 m).bind (fun q5 => nm q5.1 (fun r4 => nm q5.2 (fun m3 => some (r4, m3))))) else (if (m.1 x0 8) = 1 then (b_X3_take_161 sh F x0 x1 m) else (if (m.1 x0 8) = 2 then (b_X3_take_161 sh F x0 x1 m) else (if (m.1 x0 8) = 3 then (b_X3_take_161 sh F x0 x1 m) else (if (m.1 x0 8) = 4 then (b_X3_take_161 sh F x0 x1 m) else (if (m.1 x0 8) = 5 then (b_X3_take_161 sh F x0 x1 m) else (if (m.1 x0 8) = 6 then (b_X3_take_161 sh F x0 x1 m) else (if (m.1 x0 8) = 7 then (if x1 = (61 : Int32) then ((f_X3_turnTo sh F x0 10 m).bind (fun q16 => nm q16.1 (fun r15 => nm q16.2 (fun m14 => some (r15, m14))))) else (some (2, m))) else (if (m.1 x0 8) = 8 then (if x1 = (123 : Int32) then ((f_X3_openTo sh F x0 0 m).bind (fun q21 => nm q21.1 (fun r20 => nm q21.2 (fun m19 => some (r20, m19))))) else (some (2, m))) else (if (m.1 x0 8) = 9 then (if x1 = (123 : Int32) then ((f_X3_openTo sh F x0 10 m).bind (fun q26 => nm q26.1 (fun r25 => nm q26.2 (fun m24 => some (r25, m24))))) else (some (2, m))) else (if (m.1 x0 8) = 10 then ((f_X3_takeAtom sh F x0 x1 m).bind (fun q30 => nm q30.1 (fun r29 => nm q30.2 (fun m28 => some (r29, m28))))) else (if (m.1 x0 8) = 11 then (if x1 = (46 : Int32) then ((f_X3_turnTo sh F x0 6 m).bind (fun q38 => nm q38.1 (fun r37 => nm q38.2 (fun m36 => some (r37, m36))))) else ((f_X3_takeBehindAtom sh F x0 x1 m).bind (fun q35 => nm q35.1 (fun r34 => nm q35.2 (fun m33 => some (r34, m33)))))) else (if (m.1 x0 8) = 12 then ((f_X3_takeBehindAtom sh F x0 x1 m).bind (fun q42 => nm q42.1 (fun r41 => nm q42.2 (fun m40 => some (r41, m40))))) else (b_X3_take_161 sh F x0 x1 m))))))))))))))
set_option maxRecDepth 100000 in
set_option maxHeartbeats 4000000 in
theorem tf_X3_take {X : gX} {w : gW} {rr : Int32} {rm : gM} (C : gC X w K_X3_take 2 RX3 5) (hr : X.2.2.2.2.2.2.2.2.1.sig.returnType = (some .int)) {F : Nat} {x0 : Nat} {x1 : Int32} {m : gM} (h : f_X3_take w.2.2.2.2.1 F x0 x1 m = some (rr, rm)) : gV X w 0 0 (gR X w (some (.int rr)) rm) 2 0 [(0, .ref x0), (1, .int x1)] [] m := by
  unfold f_X3_take at h
  refine v_aload_n (pc := 0) C 0 0 rfl rfl rfl ?_
  obtain ⟨o1, h⟩ := g_okk h
  refine v_getI (pc := 1) C 1 rfl lf_ScopeGraph_Reader_50.get (g_oB o1) rfl ?_
  by_cases c2 : (m.1 x0 8) = 0
  · replace h := g_ifT c2 h
    refine v_tableIn (pc := 4) C 2 72 rfl (by rw [c2]; decide) (by rw [c2]; decide) (by rw [c2]; rfl) (by decide) ?_
    refine v_aload_n (pc := 72) C 3 0 rfl rfl rfl ?_
    refine v_iload_n (pc := 73) C 4 1 rfl rfl rfl ?_
    obtain ⟨⟨r4, m3⟩, qm3, h⟩ := g_bd h
    replace h := g_nm (y := m3) (g_nm (y := r4) h rfl) rfl
    refine v_callV (pc := 74) C 5 rfl mf_X3_takeDec clX3 rfl im_X3_takeDec lm_ScopeGraph_Reader_67 (c_X3_takeDec C.2.2.2.2.2.2.2.2.2.2.2 qm3) (by decide) rfl (g_oB o1) (Nat.le_of_ble_eq_true rfl) ⟨Nat.zero_le _, Nat.zero_le _⟩ rfl ?_
    change gV X w 0 0 (gR X w (some (.int rr)) rm) 2 77 [(0, .ref x0), (1, .int x1)] [.int r4] m3
    obtain ⟨rfl, rfl⟩ := g_so h
    exact v_iret (pc := 77) C 6 rfl hr
  · replace h := g_ifF c2 h
    have zc2 := g_tne (n := 0) (by decide) c2
    by_cases c6 : (m.1 x0 8) = 1
    · replace h := g_ifT c6 h
      refine v_tableIn (pc := 4) C 2 161 rfl (by rw [c6]; decide) (by rw [c6]; decide) (by rw [c6]; rfl) (by decide) ?_
      refine v_sub [(0, .ref x0), (1, .int x1)] [0, 1] rfl ?_
      exact tb_X3_take_161 (F := F) C hr h
    · replace h := g_ifF c6 h
      have zc6 := g_tne (n := 1) (by decide) c6
      by_cases c7 : (m.1 x0 8) = 2
      · replace h := g_ifT c7 h
        refine v_tableIn (pc := 4) C 2 161 rfl (by rw [c7]; decide) (by rw [c7]; decide) (by rw [c7]; rfl) (by decide) ?_
        refine v_sub [(0, .ref x0), (1, .int x1)] [0, 1] rfl ?_
        exact tb_X3_take_161 (F := F) C hr h
      · replace h := g_ifF c7 h
        have zc7 := g_tne (n := 2) (by decide) c7
        by_cases c8 : (m.1 x0 8) = 3
        · replace h := g_ifT c8 h
          refine v_tableIn (pc := 4) C 2 161 rfl (by rw [c8]; decide) (by rw [c8]; decide) (by rw [c8]; rfl) (by decide) ?_
          refine v_sub [(0, .ref x0), (1, .int x1)] [0, 1] rfl ?_
          exact tb_X3_take_161 (F := F) C hr h
        · replace h := g_ifF c8 h
          have zc8 := g_tne (n := 3) (by decide) c8
          by_cases c9 : (m.1 x0 8) = 4
          · replace h := g_ifT c9 h
            refine v_tableIn (pc := 4) C 2 161 rfl (by rw [c9]; decide) (by rw [c9]; decide) (by rw [c9]; rfl) (by decide) ?_
            refine v_sub [(0, .ref x0), (1, .int x1)] [0, 1] rfl ?_
            exact tb_X3_take_161 (F := F) C hr h
          · replace h := g_ifF c9 h
            have zc9 := g_tne (n := 4) (by decide) c9
            by_cases c10 : (m.1 x0 8) = 5
            · replace h := g_ifT c10 h
              refine v_tableIn (pc := 4) C 2 161 rfl (by rw [c10]; decide) (by rw [c10]; decide) (by rw [c10]; rfl) (by decide) ?_
              refine v_sub [(0, .ref x0), (1, .int x1)] [0, 1] rfl ?_
              exact tb_X3_take_161 (F := F) C hr h
            · replace h := g_ifF c10 h
              have zc10 := g_tne (n := 5) (by decide) c10
              by_cases c11 : (m.1 x0 8) = 6
              · replace h := g_ifT c11 h
                refine v_tableIn (pc := 4) C 2 161 rfl (by rw [c11]; decide) (by rw [c11]; decide) (by rw [c11]; rfl) (by decide) ?_
                refine v_sub [(0, .ref x0), (1, .int x1)] [0, 1] rfl ?_
                exact tb_X3_take_161 (F := F) C hr h
              · replace h := g_ifF c11 h
                have zc11 := g_tne (n := 6) (by decide) c11
                by_cases c12 : (m.1 x0 8) = 7
                · replace h := g_ifT c12 h
                  refine v_tableIn (pc := 4) C 2 78 rfl (by rw [c12]; decide) (by rw [c12]; decide) (by rw [c12]; rfl) (by decide) ?_
                  refine v_iload_n (pc := 78) C 7 1 rfl rfl rfl ?_
                  refine v_bipush (pc := 79) C 8 61 rfl (by decide) ?_
                  refine v_icmp_ne (pc := 81) C 9 93 rfl (by decide) (fun c13 => ?_) (fun c13 => ?_)
                  · replace h := g_ifF c13 h
                    refine v_iconst (pc := 93) C 14 2 rfl (by decide) ?_
                    obtain ⟨rfl, rfl⟩ := g_so h
                    exact v_iret (pc := 94) C 15 rfl hr
                  · replace h := g_ifT c13 h
                    refine v_aload_n (pc := 84) C 10 0 rfl rfl rfl ?_
                    refine v_bipush (pc := 85) C 11 10 rfl (by decide) ?_
                    obtain ⟨⟨r15, m14⟩, qm14, h⟩ := g_bd h
                    replace h := g_nm (y := m14) (g_nm (y := r15) h rfl) rfl
                    refine v_callV (pc := 87) C 12 rfl mf_X3_turnTo clX3 rfl im_X3_turnTo lm_ScopeGraph_Reader_70 (c_X3_turnTo C.2.2.2.2.2.2.2.2.2.2.2 qm14) (by decide) rfl (g_oB o1) (Nat.le_of_ble_eq_true rfl) ⟨Nat.zero_le _, Nat.zero_le _⟩ rfl ?_
                    change gV X w 0 0 (gR X w (some (.int rr)) rm) 2 90 [(0, .ref x0), (1, .int x1)] [.int r15] m14
                    refine v_goto (pc := 90) C 13 94 rfl (by decide) ?_
                    obtain ⟨rfl, rfl⟩ := g_so h
                    exact v_iret (pc := 94) C 15 rfl hr
                · replace h := g_ifF c12 h
                  have zc12 := g_tne (n := 7) (by decide) c12
                  by_cases c17 : (m.1 x0 8) = 8
                  · replace h := g_ifT c17 h
                    refine v_tableIn (pc := 4) C 2 95 rfl (by rw [c17]; decide) (by rw [c17]; decide) (by rw [c17]; rfl) (by decide) ?_
                    refine v_iload_n (pc := 95) C 16 1 rfl rfl rfl ?_
                    refine v_bipush (pc := 96) C 17 123 rfl (by decide) ?_
                    refine v_icmp_ne (pc := 98) C 18 109 rfl (by decide) (fun c18 => ?_) (fun c18 => ?_)
                    · replace h := g_ifF c18 h
                      refine v_iconst (pc := 109) C 23 2 rfl (by decide) ?_
                      obtain ⟨rfl, rfl⟩ := g_so h
                      exact v_iret (pc := 110) C 24 rfl hr
                    · replace h := g_ifT c18 h
                      refine v_aload_n (pc := 101) C 19 0 rfl rfl rfl ?_
                      refine v_iconst (pc := 102) C 20 0 rfl (by decide) ?_
                      obtain ⟨⟨r20, m19⟩, qm19, h⟩ := g_bd h
                      replace h := g_nm (y := m19) (g_nm (y := r20) h rfl) rfl
                      refine v_callV (pc := 103) C 21 rfl mf_X3_openTo clX3 rfl im_X3_openTo lm_ScopeGraph_Reader_73 (c_X3_openTo C.2.2.2.2.2.2.2.2.2.2.2 qm19) (by decide) rfl (g_oB o1) (Nat.le_of_ble_eq_true rfl) ⟨Nat.zero_le _, Nat.zero_le _⟩ rfl ?_
                      change gV X w 0 0 (gR X w (some (.int rr)) rm) 2 106 [(0, .ref x0), (1, .int x1)] [.int r20] m19
                      refine v_goto (pc := 106) C 22 110 rfl (by decide) ?_
                      obtain ⟨rfl, rfl⟩ := g_so h
                      exact v_iret (pc := 110) C 24 rfl hr
                  · replace h := g_ifF c17 h
                    have zc17 := g_tne (n := 8) (by decide) c17
                    by_cases c22 : (m.1 x0 8) = 9
                    · replace h := g_ifT c22 h
                      refine v_tableIn (pc := 4) C 2 111 rfl (by rw [c22]; decide) (by rw [c22]; decide) (by rw [c22]; rfl) (by decide) ?_
                      refine v_iload_n (pc := 111) C 25 1 rfl rfl rfl ?_
                      refine v_bipush (pc := 112) C 26 123 rfl (by decide) ?_
                      refine v_icmp_ne (pc := 114) C 27 126 rfl (by decide) (fun c23 => ?_) (fun c23 => ?_)
                      · replace h := g_ifF c23 h
                        refine v_iconst (pc := 126) C 32 2 rfl (by decide) ?_
                        obtain ⟨rfl, rfl⟩ := g_so h
                        exact v_iret (pc := 127) C 33 rfl hr
                      · replace h := g_ifT c23 h
                        refine v_aload_n (pc := 117) C 28 0 rfl rfl rfl ?_
                        refine v_bipush (pc := 118) C 29 10 rfl (by decide) ?_
                        obtain ⟨⟨r25, m24⟩, qm24, h⟩ := g_bd h
                        replace h := g_nm (y := m24) (g_nm (y := r25) h rfl) rfl
                        refine v_callV (pc := 120) C 30 rfl mf_X3_openTo clX3 rfl im_X3_openTo lm_ScopeGraph_Reader_73 (c_X3_openTo C.2.2.2.2.2.2.2.2.2.2.2 qm24) (by decide) rfl (g_oB o1) (Nat.le_of_ble_eq_true rfl) ⟨Nat.zero_le _, Nat.zero_le _⟩ rfl ?_
                        change gV X w 0 0 (gR X w (some (.int rr)) rm) 2 123 [(0, .ref x0), (1, .int x1)] [.int r25] m24
                        refine v_goto (pc := 123) C 31 127 rfl (by decide) ?_
                        obtain ⟨rfl, rfl⟩ := g_so h
                        exact v_iret (pc := 127) C 33 rfl hr
                    · replace h := g_ifF c22 h
                      have zc22 := g_tne (n := 9) (by decide) c22
                      by_cases c27 : (m.1 x0 8) = 10
                      · replace h := g_ifT c27 h
                        refine v_tableIn (pc := 4) C 2 128 rfl (by rw [c27]; decide) (by rw [c27]; decide) (by rw [c27]; rfl) (by decide) ?_
                        refine v_aload_n (pc := 128) C 34 0 rfl rfl rfl ?_
                        refine v_iload_n (pc := 129) C 35 1 rfl rfl rfl ?_
                        obtain ⟨⟨r29, m28⟩, qm28, h⟩ := g_bd h
                        replace h := g_nm (y := m28) (g_nm (y := r29) h rfl) rfl
                        refine v_callV (pc := 130) C 36 rfl mf_X3_takeAtom clX3 rfl im_X3_takeAtom lm_ScopeGraph_Reader_76 (c_X3_takeAtom C.2.2.2.2.2.2.2.2.2.2.2 qm28) (by decide) rfl (g_oB o1) (Nat.le_of_ble_eq_true rfl) ⟨Nat.zero_le _, Nat.zero_le _⟩ rfl ?_
                        change gV X w 0 0 (gR X w (some (.int rr)) rm) 2 133 [(0, .ref x0), (1, .int x1)] [.int r29] m28
                        obtain ⟨rfl, rfl⟩ := g_so h
                        exact v_iret (pc := 133) C 37 rfl hr
                      · replace h := g_ifF c27 h
                        have zc27 := g_tne (n := 10) (by decide) c27
                        by_cases c31 : (m.1 x0 8) = 11
                        · replace h := g_ifT c31 h
                          refine v_tableIn (pc := 4) C 2 134 rfl (by rw [c31]; decide) (by rw [c31]; decide) (by rw [c31]; rfl) (by decide) ?_
                          refine v_iload_n (pc := 134) C 38 1 rfl rfl rfl ?_
                          refine v_bipush (pc := 135) C 39 46 rfl (by decide) ?_
                          refine v_icmp_ne (pc := 137) C 40 149 rfl (by decide) (fun c32 => ?_) (fun c32 => ?_)
                          · replace h := g_ifF c32 h
                            refine v_aload_n (pc := 149) C 45 0 rfl rfl rfl ?_
                            refine v_iload_n (pc := 150) C 46 1 rfl rfl rfl ?_
                            obtain ⟨⟨r34, m33⟩, qm33, h⟩ := g_bd h
                            replace h := g_nm (y := m33) (g_nm (y := r34) h rfl) rfl
                            refine v_callV (pc := 151) C 47 rfl mf_X3_takeBehindAtom clX3 rfl im_X3_takeBehindAtom lm_ScopeGraph_Reader_79 (c_X3_takeBehindAtom C.2.2.2.2.2.2.2.2.2.2.2 qm33) (by decide) rfl (g_oB o1) (Nat.le_of_ble_eq_true rfl) ⟨Nat.zero_le _, Nat.zero_le _⟩ rfl ?_
                            change gV X w 0 0 (gR X w (some (.int rr)) rm) 2 154 [(0, .ref x0), (1, .int x1)] [.int r34] m33
                            obtain ⟨rfl, rfl⟩ := g_so h
                            exact v_iret (pc := 154) C 48 rfl hr
                          · replace h := g_ifT c32 h
                            refine v_aload_n (pc := 140) C 41 0 rfl rfl rfl ?_
                            refine v_bipush (pc := 141) C 42 6 rfl (by decide) ?_
                            obtain ⟨⟨r37, m36⟩, qm36, h⟩ := g_bd h
                            replace h := g_nm (y := m36) (g_nm (y := r37) h rfl) rfl
                            refine v_callV (pc := 143) C 43 rfl mf_X3_turnTo clX3 rfl im_X3_turnTo lm_ScopeGraph_Reader_70 (c_X3_turnTo C.2.2.2.2.2.2.2.2.2.2.2 qm36) (by decide) rfl (g_oB o1) (Nat.le_of_ble_eq_true rfl) ⟨Nat.zero_le _, Nat.zero_le _⟩ rfl ?_
                            change gV X w 0 0 (gR X w (some (.int rr)) rm) 2 146 [(0, .ref x0), (1, .int x1)] [.int r37] m36
                            refine v_goto (pc := 146) C 44 154 rfl (by decide) ?_
                            obtain ⟨rfl, rfl⟩ := g_so h
                            exact v_iret (pc := 154) C 48 rfl hr
                        · replace h := g_ifF c31 h
                          have zc31 := g_tne (n := 11) (by decide) c31
                          by_cases c39 : (m.1 x0 8) = 12
                          · replace h := g_ifT c39 h
                            refine v_tableIn (pc := 4) C 2 155 rfl (by rw [c39]; decide) (by rw [c39]; decide) (by rw [c39]; rfl) (by decide) ?_
                            refine v_aload_n (pc := 155) C 49 0 rfl rfl rfl ?_
                            refine v_iload_n (pc := 156) C 50 1 rfl rfl rfl ?_
                            obtain ⟨⟨r41, m40⟩, qm40, h⟩ := g_bd h
                            replace h := g_nm (y := m40) (g_nm (y := r41) h rfl) rfl
                            refine v_callV (pc := 157) C 51 rfl mf_X3_takeBehindAtom clX3 rfl im_X3_takeBehindAtom lm_ScopeGraph_Reader_79 (c_X3_takeBehindAtom C.2.2.2.2.2.2.2.2.2.2.2 qm40) (by decide) rfl (g_oB o1) (Nat.le_of_ble_eq_true rfl) ⟨Nat.zero_le _, Nat.zero_le _⟩ rfl ?_
                            change gV X w 0 0 (gR X w (some (.int rr)) rm) 2 160 [(0, .ref x0), (1, .int x1)] [.int r41] m40
                            obtain ⟨rfl, rfl⟩ := g_so h
                            exact v_iret (pc := 160) C 52 rfl hr
                          · replace h := g_ifF c39 h
                            have zc39 := g_tne (n := 12) (by decide) c39
                            refine v_tableOut (pc := 4) C 2 161 rfl (by omega) (by decide) ?_
                            refine v_sub [(0, .ref x0), (1, .int x1)] [0, 1] rfl ?_
                            exact tb_X3_take_161 (F := F) C hr h
theorem c_X3_take {l : Launch} {w : gW} {rr : Int32} {rm : gM} (hJ : gJok w) {F : Nat} {x0 : Nat} {x1 : Int32} {m : gM} (h : f_X3_take w.2.2.2.2.1 F x0 x1 m = some (rr, rm)) : gMet l 5 yX3_take cX3_take 2 (some .int) w [.ref x0, .int x1] m (some (.int rr)) rm :=
  gMet.of hJ mf_X3_take dk_X3_take (Nat.le_of_ble_eq_true rfl) (fun X _ C hr => tf_X3_take (F := F) C hr h)
def f_X5_at (sh : List gS) (F : Nat) (x0 : Nat) (x1 : Int32) (m : gM) : Option (Int32 × gM) :=
  if x1 < 0 then (some ((-1), m)) else (g_if (oB sh x0 5) (if (m.1 x0 1) ≤ x1 then (some ((-1), m)) else ((m.2.2 x0 0).bind (fun t4 => g_if (aB sh t4 .byte x1) (some ((m.1 t4 (x1).toNatClampNeg) &&& (255 : Int32), m))))))
set_option maxRecDepth 100000 in
set_option maxHeartbeats 4000000 in
theorem tf_X5_at {X : gX} {w : gW} {rr : Int32} {rm : gM} (C : gC X w K_X5_at 2 RX5 0) (hr : X.2.2.2.2.2.2.2.2.1.sig.returnType = (some .int)) {F : Nat} {x0 : Nat} {x1 : Int32} {m : gM} (h : f_X5_at w.2.2.2.2.1 F x0 x1 m = some (rr, rm)) : gV X w 0 0 (gR X w (some (.int rr)) rm) 2 0 [(0, .ref x0), (1, .int x1)] [] m := by
  unfold f_X5_at at h
  refine v_iload_n (pc := 0) C 0 1 rfl rfl rfl ?_
  refine v_if_lt (pc := 1) C 1 25 rfl (by decide) (fun c1 => ?_) (fun c1 => ?_)
  · replace h := g_ifT c1 h
    refine v_iconst (pc := 25) C 13 (-1) rfl (by decide) ?_
    obtain ⟨rfl, rfl⟩ := g_so h
    exact v_iret (pc := 26) C 14 rfl hr
  · replace h := g_ifF c1 h
    refine v_iload_n (pc := 4) C 2 1 rfl rfl rfl ?_
    refine v_aload_n (pc := 5) C 3 0 rfl rfl rfl ?_
    obtain ⟨o2, h⟩ := g_okk h
    refine v_getI (pc := 6) C 4 rfl lf_ScopeGraph_Tape_15.get (g_oB o2) rfl ?_
    refine v_icmp_ge (pc := 9) C 5 25 rfl (by decide) (fun c3 => ?_) (fun c3 => ?_)
    · replace h := g_ifT c3 h
      refine v_iconst (pc := 25) C 13 (-1) rfl (by decide) ?_
      obtain ⟨rfl, rfl⟩ := g_so h
      exact v_iret (pc := 26) C 14 rfl hr
    · replace h := g_ifF c3 h
      refine v_aload_n (pc := 12) C 6 0 rfl rfl rfl ?_
      obtain ⟨t4, qt4, h⟩ := g_bd h
      refine v_getR (pc := 13) C 7 rfl lf_ScopeGraph_Tape_9 (g_oB o2) rfl qt4 ?_
      refine v_iload_n (pc := 16) C 8 1 rfl rfl rfl ?_
      obtain ⟨b5, h⟩ := g_okk h
      refine v_bald' (pc := 17) C 9 rfl b5 ?_
      refine v_sipush (pc := 18) C 10 255 rfl (by decide) ?_
      refine v_iand (pc := 21) C 11 rfl ?_
      refine v_goto (pc := 22) C 12 26 rfl (by decide) ?_
      obtain ⟨rfl, rfl⟩ := g_so h
      exact v_iret (pc := 26) C 14 rfl hr
theorem c_X5_at {l : Launch} {w : gW} {rr : Int32} {rm : gM} (hJ : gJok w) {F : Nat} {x0 : Nat} {x1 : Int32} {m : gM} (h : f_X5_at w.2.2.2.2.1 F x0 x1 m = some (rr, rm)) : gMet l 0 yX5_at cX5_at 2 (some .int) w [.ref x0, .int x1] m (some (.int rr)) rm :=
  gMet.of hJ mf_X5_at dk_X5_at (Nat.le_of_ble_eq_true rfl) (fun X _ C hr => tf_X5_at (F := F) C hr h)
def b_X6_beginsName_30 (sh : List gS) (F : Nat) (m : gM) : Option (Int32 × gM) :=
  some (1, m)
set_option maxRecDepth 100000 in
set_option maxHeartbeats 4000000 in
theorem tb_X6_beginsName_30 {X : gX} {w : gW} {rr : Int32} {rm : gM} (C : gC X w K_X6_beginsName 1 RX6 0) (hr : X.2.2.2.2.2.2.2.2.1.sig.returnType = (some .boolean)) {F : Nat} {m : gM} (h : b_X6_beginsName_30 w.2.2.2.2.1 F m = some (rr, rm)) : gV X w 0 0 (gR X w (some (.int rr)) rm) 1 30 [] [] m := by
  unfold b_X6_beginsName_30 at h
  refine v_iconst (pc := 30) C 15 1 rfl (by decide) ?_
  refine v_goto (pc := 31) C 16 35 rfl (by decide) ?_
  obtain ⟨rfl, rfl⟩ := g_so h
  exact v_zret (pc := 35) C 18 rfl hr (by decide)
def b_X6_beginsName_24 (sh : List gS) (F : Nat) (x0 : Int32) (m : gM) : Option (Int32 × gM) :=
  if x0 = (95 : Int32) then (b_X6_beginsName_30 sh F m) else (some (0, m))
set_option maxRecDepth 100000 in
set_option maxHeartbeats 4000000 in
theorem tb_X6_beginsName_24 {X : gX} {w : gW} {rr : Int32} {rm : gM} (C : gC X w K_X6_beginsName 1 RX6 0) (hr : X.2.2.2.2.2.2.2.2.1.sig.returnType = (some .boolean)) {F : Nat} {x0 : Int32} {m : gM} (h : b_X6_beginsName_24 w.2.2.2.2.1 F x0 m = some (rr, rm)) : gV X w 0 0 (gR X w (some (.int rr)) rm) 1 24 [(0, .int x0)] [] m := by
  unfold b_X6_beginsName_24 at h
  refine v_iload_n (pc := 24) C 12 0 rfl rfl rfl ?_
  refine v_bipush (pc := 25) C 13 95 rfl (by decide) ?_
  refine v_icmp_ne (pc := 27) C 14 34 rfl (by decide) (fun c1 => ?_) (fun c1 => ?_)
  · replace h := g_ifF c1 h
    refine v_iconst (pc := 34) C 17 0 rfl (by decide) ?_
    obtain ⟨rfl, rfl⟩ := g_so h
    exact v_zret (pc := 35) C 18 rfl hr (by decide)
  · replace h := g_ifT c1 h
    refine v_sub [] [] rfl ?_
    exact tb_X6_beginsName_30 (F := F) C hr h
def b_X6_beginsName_12 (sh : List gS) (F : Nat) (x0 : Int32) (m : gM) : Option (Int32 × gM) :=
  if x0 < (65 : Int32) then (b_X6_beginsName_24 sh F x0 m) else (if x0 ≤ (90 : Int32) then (b_X6_beginsName_30 sh F m) else (b_X6_beginsName_24 sh F x0 m))
set_option maxRecDepth 100000 in
set_option maxHeartbeats 4000000 in
theorem tb_X6_beginsName_12 {X : gX} {w : gW} {rr : Int32} {rm : gM} (C : gC X w K_X6_beginsName 1 RX6 0) (hr : X.2.2.2.2.2.2.2.2.1.sig.returnType = (some .boolean)) {F : Nat} {x0 : Int32} {m : gM} (h : b_X6_beginsName_12 w.2.2.2.2.1 F x0 m = some (rr, rm)) : gV X w 0 0 (gR X w (some (.int rr)) rm) 1 12 [(0, .int x0)] [] m := by
  unfold b_X6_beginsName_12 at h
  refine v_iload_n (pc := 12) C 6 0 rfl rfl rfl ?_
  refine v_bipush (pc := 13) C 7 65 rfl (by decide) ?_
  refine v_icmp_lt (pc := 15) C 8 24 rfl (by decide) (fun c1 => ?_) (fun c1 => ?_)
  · replace h := g_ifT c1 h
    refine v_sub [(0, .int x0)] [0] rfl ?_
    exact tb_X6_beginsName_24 (F := F) C hr h
  · replace h := g_ifF c1 h
    refine v_iload_n (pc := 18) C 9 0 rfl rfl rfl ?_
    refine v_bipush (pc := 19) C 10 90 rfl (by decide) ?_
    refine v_icmp_le (pc := 21) C 11 30 rfl (by decide) (fun c2 => ?_) (fun c2 => ?_)
    · replace h := g_ifT c2 h
      refine v_sub [] [] rfl ?_
      exact tb_X6_beginsName_30 (F := F) C hr h
    · replace h := g_ifF c2 h
      refine v_sub [(0, .int x0)] [0] rfl ?_
      exact tb_X6_beginsName_24 (F := F) C hr h
def f_X6_beginsName (sh : List gS) (F : Nat) (x0 : Int32) (m : gM) : Option (Int32 × gM) :=
  if x0 < (97 : Int32) then (b_X6_beginsName_12 sh F x0 m) else (if x0 ≤ (122 : Int32) then (b_X6_beginsName_30 sh F m) else (b_X6_beginsName_12 sh F x0 m))
set_option maxRecDepth 100000 in
set_option maxHeartbeats 4000000 in
theorem tf_X6_beginsName {X : gX} {w : gW} {rr : Int32} {rm : gM} (C : gC X w K_X6_beginsName 1 RX6 0) (hr : X.2.2.2.2.2.2.2.2.1.sig.returnType = (some .boolean)) {F : Nat} {x0 : Int32} {m : gM} (h : f_X6_beginsName w.2.2.2.2.1 F x0 m = some (rr, rm)) : gV X w 0 0 (gR X w (some (.int rr)) rm) 1 0 [(0, .int x0)] [] m := by
  unfold f_X6_beginsName at h
  refine v_iload_n (pc := 0) C 0 0 rfl rfl rfl ?_
  refine v_bipush (pc := 1) C 1 97 rfl (by decide) ?_
  refine v_icmp_lt (pc := 3) C 2 12 rfl (by decide) (fun c1 => ?_) (fun c1 => ?_)
  · replace h := g_ifT c1 h
    refine v_sub [(0, .int x0)] [0] rfl ?_
    exact tb_X6_beginsName_12 (F := F) C hr h
  · replace h := g_ifF c1 h
    refine v_iload_n (pc := 6) C 3 0 rfl rfl rfl ?_
    refine v_bipush (pc := 7) C 4 122 rfl (by decide) ?_
    refine v_icmp_le (pc := 9) C 5 30 rfl (by decide) (fun c2 => ?_) (fun c2 => ?_)
    · replace h := g_ifT c2 h
      refine v_sub [] [] rfl ?_
      exact tb_X6_beginsName_30 (F := F) C hr h
    · replace h := g_ifF c2 h
      refine v_sub [(0, .int x0)] [0] rfl ?_
      exact tb_X6_beginsName_12 (F := F) C hr h
theorem c_X6_beginsName {l : Launch} {w : gW} {rr : Int32} {rm : gM} (hJ : gJok w) {F : Nat} {x0 : Int32} {m : gM} (h : f_X6_beginsName w.2.2.2.2.1 F x0 m = some (rr, rm)) : gMet l 0 yX6_beginsName cX6_beginsName 1 (some .boolean) w [.int x0] m (some (.int rr)) rm :=
  gMet.of hJ mf_X6_beginsName dk_X6_beginsName (Nat.le_of_ble_eq_true rfl) (fun X _ C hr => tf_X6_beginsName (F := F) C hr h)
def b_X6_isBlank_24 (sh : List gS) (F : Nat) (m : gM) : Option (Int32 × gM) :=
  some (1, m)
set_option maxRecDepth 100000 in
set_option maxHeartbeats 4000000 in
theorem tb_X6_isBlank_24 {X : gX} {w : gW} {rr : Int32} {rm : gM} (C : gC X w K_X6_isBlank 1 RX6 0) (hr : X.2.2.2.2.2.2.2.2.1.sig.returnType = (some .boolean)) {F : Nat} {m : gM} (h : b_X6_isBlank_24 w.2.2.2.2.1 F m = some (rr, rm)) : gV X w 0 0 (gR X w (some (.int rr)) rm) 1 24 [] [] m := by
  unfold b_X6_isBlank_24 at h
  refine v_iconst (pc := 24) C 12 1 rfl (by decide) ?_
  refine v_goto (pc := 25) C 13 29 rfl (by decide) ?_
  obtain ⟨rfl, rfl⟩ := g_so h
  exact v_zret (pc := 29) C 15 rfl hr (by decide)
def f_X6_isBlank (sh : List gS) (F : Nat) (x0 : Int32) (m : gM) : Option (Int32 × gM) :=
  if x0 = (32 : Int32) then (b_X6_isBlank_24 sh F m) else (if x0 = (9 : Int32) then (b_X6_isBlank_24 sh F m) else (if x0 = (10 : Int32) then (b_X6_isBlank_24 sh F m) else (if x0 = (13 : Int32) then (b_X6_isBlank_24 sh F m) else (some (0, m)))))
set_option maxRecDepth 100000 in
set_option maxHeartbeats 4000000 in
theorem tf_X6_isBlank {X : gX} {w : gW} {rr : Int32} {rm : gM} (C : gC X w K_X6_isBlank 1 RX6 0) (hr : X.2.2.2.2.2.2.2.2.1.sig.returnType = (some .boolean)) {F : Nat} {x0 : Int32} {m : gM} (h : f_X6_isBlank w.2.2.2.2.1 F x0 m = some (rr, rm)) : gV X w 0 0 (gR X w (some (.int rr)) rm) 1 0 [(0, .int x0)] [] m := by
  unfold f_X6_isBlank at h
  refine v_iload_n (pc := 0) C 0 0 rfl rfl rfl ?_
  refine v_bipush (pc := 1) C 1 32 rfl (by decide) ?_
  refine v_icmp_eq (pc := 3) C 2 24 rfl (by decide) (fun c1 => ?_) (fun c1 => ?_)
  · replace h := g_ifT c1 h
    refine v_sub [] [] rfl ?_
    exact tb_X6_isBlank_24 (F := F) C hr h
  · replace h := g_ifF c1 h
    refine v_iload_n (pc := 6) C 3 0 rfl rfl rfl ?_
    refine v_bipush (pc := 7) C 4 9 rfl (by decide) ?_
    refine v_icmp_eq (pc := 9) C 5 24 rfl (by decide) (fun c2 => ?_) (fun c2 => ?_)
    · replace h := g_ifT c2 h
      refine v_sub [] [] rfl ?_
      exact tb_X6_isBlank_24 (F := F) C hr h
    · replace h := g_ifF c2 h
      refine v_iload_n (pc := 12) C 6 0 rfl rfl rfl ?_
      refine v_bipush (pc := 13) C 7 10 rfl (by decide) ?_
      refine v_icmp_eq (pc := 15) C 8 24 rfl (by decide) (fun c3 => ?_) (fun c3 => ?_)
      · replace h := g_ifT c3 h
        refine v_sub [] [] rfl ?_
        exact tb_X6_isBlank_24 (F := F) C hr h
      · replace h := g_ifF c3 h
        refine v_iload_n (pc := 18) C 9 0 rfl rfl rfl ?_
        refine v_bipush (pc := 19) C 10 13 rfl (by decide) ?_
        refine v_icmp_ne (pc := 21) C 11 28 rfl (by decide) (fun c4 => ?_) (fun c4 => ?_)
        · replace h := g_ifF c4 h
          refine v_iconst (pc := 28) C 14 0 rfl (by decide) ?_
          obtain ⟨rfl, rfl⟩ := g_so h
          exact v_zret (pc := 29) C 15 rfl hr (by decide)
        · replace h := g_ifT c4 h
          refine v_sub [] [] rfl ?_
          exact tb_X6_isBlank_24 (F := F) C hr h
theorem c_X6_isBlank {l : Launch} {w : gW} {rr : Int32} {rm : gM} (hJ : gJok w) {F : Nat} {x0 : Int32} {m : gM} (h : f_X6_isBlank w.2.2.2.2.1 F x0 m = some (rr, rm)) : gMet l 0 yX6_isBlank cX6_isBlank 1 (some .boolean) w [.int x0] m (some (.int rr)) rm :=
  gMet.of hJ mf_X6_isBlank dk_X6_isBlank (Nat.le_of_ble_eq_true rfl) (fun X _ C hr => tf_X6_isBlank (F := F) C hr h)
def b_X6_behindBlanks_2 (sh : List gS) (F : Nat) (k2 : Nat → Int32 → gM → Option (Int32 × gM)) (x0 : Nat) (x2 : Int32) (m : gM) : Option (Int32 × gM) :=
  if (4000 : Int32) ≤ x2 then (some (x2, m)) else (g_if (oB sh x0 5) ((f_X5_at sh F x0 x2 m).bind (fun q5 => nm q5.1 (fun r4 => nm q5.2 (fun m3 => (f_X6_isBlank sh F r4 m3).bind (fun q8 => nm q8.1 (fun r7 => nm q8.2 (fun m6 => if r7 = 0 then (some (x2, m6)) else (nm (x2 + Int32.ofInt 1) (fun v10 => k2 x0 v10 m6))))))))))
set_option maxRecDepth 100000 in
set_option maxHeartbeats 4000000 in
theorem tb_X6_behindBlanks_2 {X : gX} {w : gW} {rr : Int32} {rm : gM} (C : gC X w K_X6_behindBlanks 3 RX6 1) (hr : X.2.2.2.2.2.2.2.2.1.sig.returnType = (some .int)) {F : Nat} {k2 : Nat → Int32 → gM → Option (Int32 × gM)} (hk2 : ∀ (z0 : Nat) (z2 : Int32) (m : gM), k2 z0 z2 m = some (rr, rm) → gV X w 0 0 (gR X w (some (.int rr)) rm) 3 2 [(0, .ref z0), (2, .int z2)] [] m) {x0 : Nat} {x2 : Int32} {m : gM} (h : b_X6_behindBlanks_2 w.2.2.2.2.1 F k2 x0 x2 m = some (rr, rm)) : gV X w 0 0 (gR X w (some (.int rr)) rm) 3 2 [(0, .ref x0), (2, .int x2)] [] m := by
  unfold b_X6_behindBlanks_2 at h
  refine v_iload_n (pc := 2) C 2 1 rfl rfl rfl ?_
  refine v_sipush (pc := 3) C 3 4000 rfl (by decide) ?_
  refine v_icmp_ge (pc := 6) C 4 26 rfl (by decide) (fun c1 => ?_) (fun c1 => ?_)
  · replace h := g_ifT c1 h
    refine v_iload_n (pc := 26) C 12 1 rfl rfl rfl ?_
    obtain ⟨rfl, rfl⟩ := g_so h
    exact v_iret (pc := 27) C 13 rfl hr
  · replace h := g_ifF c1 h
    refine v_aload_n (pc := 9) C 5 0 rfl rfl rfl ?_
    refine v_iload_n (pc := 10) C 6 1 rfl rfl rfl ?_
    obtain ⟨o2, h⟩ := g_okk h
    obtain ⟨⟨r4, m3⟩, qm3, h⟩ := g_bd h
    replace h := g_nm (y := m3) (g_nm (y := r4) h rfl) rfl
    refine v_callV (pc := 11) C 7 rfl mf_X5_at clX5 rfl im_X5_at lm_ScopeGraph_Tokens_22 (c_X5_at C.2.2.2.2.2.2.2.2.2.2.2 qm3) (by decide) rfl (g_oB o2) (Nat.le_of_ble_eq_true rfl) ⟨Nat.zero_le _, Nat.zero_le _⟩ rfl ?_
    change gV X w 0 0 (gR X w (some (.int rr)) rm) 3 14 [(0, .ref x0), (2, .int x2)] [.int r4] m3
    obtain ⟨⟨r7, m6⟩, qm6, h⟩ := g_bd h
    replace h := g_nm (y := m6) (g_nm (y := r7) h rfl) rfl
    refine v_callS (pc := 14) C 8 rfl mf_X6_isBlank sm_X6_isBlank lm_ScopeGraph_Tokens_92 (c_X6_isBlank C.2.2.2.2.2.2.2.2.2.2.2 qm6) (by decide) rfl (Nat.le_of_ble_eq_true rfl) ⟨Nat.zero_le _, Nat.zero_le _⟩ rfl ?_
    change gV X w 0 0 (gR X w (some (.int rr)) rm) 3 17 [(0, .ref x0), (2, .int x2)] [.int r7] m6
    refine v_if_eq (pc := 17) C 9 26 rfl (by decide) (fun c9 => ?_) (fun c9 => ?_)
    · replace h := g_ifT c9 h
      refine v_iload_n (pc := 26) C 12 1 rfl rfl rfl ?_
      obtain ⟨rfl, rfl⟩ := g_so h
      exact v_iret (pc := 27) C 13 rfl hr
    · replace h := g_ifF c9 h
      refine v_iincN (pc := 20) C 10 1 (fun v10 => [(2, .int v10), (0, .ref x0)]) rfl rfl (by decide) (fun _ => rfl) (fun v10 ev10 => ?_)
      replace h := g_nm h ev10
      refine v_goto (pc := 23) C 11 2 rfl (by decide) ?_
      refine v_sub [(0, .ref x0), (2, .int v10)] [1, 0] rfl ?_
      exact hk2 _ _ _ h
def l_X6_behindBlanks_2 (sh : List gS) (F : Nat) : Nat → Nat → Int32 → gM → Option (Int32 × gM)
  | 0 => fun _ _ _ => none
  | n + 1 => fun x0 x2 m => b_X6_behindBlanks_2 sh F (l_X6_behindBlanks_2 sh F n) x0 x2 m
theorem tl_X6_behindBlanks_2 {X : gX} {w : gW} {rr : Int32} {rm : gM} (C : gC X w K_X6_behindBlanks 3 RX6 1) (hr : X.2.2.2.2.2.2.2.2.1.sig.returnType = (some .int)) {F : Nat} : ∀ (n : Nat) (x0 : Nat) (x2 : Int32) (m : gM), l_X6_behindBlanks_2 w.2.2.2.2.1 F n x0 x2 m = some (rr, rm) → gV X w 0 0 (gR X w (some (.int rr)) rm) 3 2 [(0, .ref x0), (2, .int x2)] [] m := by
  intro n
  induction n with
  | zero => intro x0 x2 m h; cases h
  | succ n ih => intro x0 x2 m h; exact tb_X6_behindBlanks_2 (F := F) C hr ih h
def f_X6_behindBlanks (sh : List gS) (F : Nat) (x0 : Nat) (x1 : Int32) (m : gM) : Option (Int32 × gM) :=
  l_X6_behindBlanks_2 sh F F x0 x1 m
set_option maxRecDepth 100000 in
set_option maxHeartbeats 4000000 in
theorem tf_X6_behindBlanks {X : gX} {w : gW} {rr : Int32} {rm : gM} (C : gC X w K_X6_behindBlanks 3 RX6 1) (hr : X.2.2.2.2.2.2.2.2.1.sig.returnType = (some .int)) {F : Nat} {x0 : Nat} {x1 : Int32} {m : gM} (h : f_X6_behindBlanks w.2.2.2.2.1 F x0 x1 m = some (rr, rm)) : gV X w 0 0 (gR X w (some (.int rr)) rm) 3 0 [(0, .ref x0), (1, .int x1)] [] m := by
  unfold f_X6_behindBlanks at h
  refine v_iload_n (pc := 0) C 0 1 rfl rfl rfl ?_
  refine v_istore_n (pc := 1) (lv' := [(2, .int x1), (0, .ref x0), (1, .int x1)]) C 1 rfl rfl (by decide) rfl ?_
  refine v_sub [(0, .ref x0), (2, .int x1)] [1, 0] rfl ?_
  exact tl_X6_behindBlanks_2 (F := F) C hr _ _ _ _ h
theorem c_X6_behindBlanks {l : Launch} {w : gW} {rr : Int32} {rm : gM} (hJ : gJok w) {F : Nat} {x0 : Nat} {x1 : Int32} {m : gM} (h : f_X6_behindBlanks w.2.2.2.2.1 F x0 x1 m = some (rr, rm)) : gMet l 1 yX6_behindBlanks cX6_behindBlanks 3 (some .int) w [.ref x0, .int x1] m (some (.int rr)) rm :=
  gMet.of hJ mf_X6_behindBlanks dk_X6_behindBlanks (Nat.le_of_ble_eq_true rfl) (fun X _ C hr => tf_X6_behindBlanks (F := F) C hr h)
def f_X6_isDigit (sh : List gS) (F : Nat) (x0 : Int32) (m : gM) : Option (Int32 × gM) :=
  if x0 < (48 : Int32) then (some (0, m)) else (if (57 : Int32) < x0 then (some (0, m)) else (some (1, m)))
set_option maxRecDepth 100000 in
set_option maxHeartbeats 4000000 in
theorem tf_X6_isDigit {X : gX} {w : gW} {rr : Int32} {rm : gM} (C : gC X w K_X6_isDigit 1 RX6 0) (hr : X.2.2.2.2.2.2.2.2.1.sig.returnType = (some .boolean)) {F : Nat} {x0 : Int32} {m : gM} (h : f_X6_isDigit w.2.2.2.2.1 F x0 m = some (rr, rm)) : gV X w 0 0 (gR X w (some (.int rr)) rm) 1 0 [(0, .int x0)] [] m := by
  unfold f_X6_isDigit at h
  refine v_iload_n (pc := 0) C 0 0 rfl rfl rfl ?_
  refine v_bipush (pc := 1) C 1 48 rfl (by decide) ?_
  refine v_icmp_lt (pc := 3) C 2 16 rfl (by decide) (fun c1 => ?_) (fun c1 => ?_)
  · replace h := g_ifT c1 h
    refine v_iconst (pc := 16) C 8 0 rfl (by decide) ?_
    obtain ⟨rfl, rfl⟩ := g_so h
    exact v_zret (pc := 17) C 9 rfl hr (by decide)
  · replace h := g_ifF c1 h
    refine v_iload_n (pc := 6) C 3 0 rfl rfl rfl ?_
    refine v_bipush (pc := 7) C 4 57 rfl (by decide) ?_
    refine v_icmp_gt (pc := 9) C 5 16 rfl (by decide) (fun c2 => ?_) (fun c2 => ?_)
    · replace h := g_ifT c2 h
      refine v_iconst (pc := 16) C 8 0 rfl (by decide) ?_
      obtain ⟨rfl, rfl⟩ := g_so h
      exact v_zret (pc := 17) C 9 rfl hr (by decide)
    · replace h := g_ifF c2 h
      refine v_iconst (pc := 12) C 6 1 rfl (by decide) ?_
      refine v_goto (pc := 13) C 7 17 rfl (by decide) ?_
      obtain ⟨rfl, rfl⟩ := g_so h
      exact v_zret (pc := 17) C 9 rfl hr (by decide)
theorem c_X6_isDigit {l : Launch} {w : gW} {rr : Int32} {rm : gM} (hJ : gJok w) {F : Nat} {x0 : Int32} {m : gM} (h : f_X6_isDigit w.2.2.2.2.1 F x0 m = some (rr, rm)) : gMet l 0 yX6_isDigit cX6_isDigit 1 (some .boolean) w [.int x0] m (some (.int rr)) rm :=
  gMet.of hJ mf_X6_isDigit dk_X6_isDigit (Nat.le_of_ble_eq_true rfl) (fun X _ C hr => tf_X6_isDigit (F := F) C hr h)
def b_X6_isInName_14 (sh : List gS) (F : Nat) (m : gM) : Option (Int32 × gM) :=
  some (1, m)
set_option maxRecDepth 100000 in
set_option maxHeartbeats 4000000 in
theorem tb_X6_isInName_14 {X : gX} {w : gW} {rr : Int32} {rm : gM} (C : gC X w K_X6_isInName 1 RX6 1) (hr : X.2.2.2.2.2.2.2.2.1.sig.returnType = (some .boolean)) {F : Nat} {m : gM} (h : b_X6_isInName_14 w.2.2.2.2.1 F m = some (rr, rm)) : gV X w 0 0 (gR X w (some (.int rr)) rm) 1 14 [] [] m := by
  unfold b_X6_isInName_14 at h
  refine v_iconst (pc := 14) C 6 1 rfl (by decide) ?_
  refine v_goto (pc := 15) C 7 19 rfl (by decide) ?_
  obtain ⟨rfl, rfl⟩ := g_so h
  exact v_zret (pc := 19) C 9 rfl hr (by decide)
def f_X6_isInName (sh : List gS) (F : Nat) (x0 : Int32) (m : gM) : Option (Int32 × gM) :=
  (f_X6_beginsName sh F x0 m).bind (fun q3 => nm q3.1 (fun r2 => nm q3.2 (fun m1 => if r2 = 0 then ((f_X6_isDigit sh F x0 m1).bind (fun q7 => nm q7.1 (fun r6 => nm q7.2 (fun m5 => if r6 = 0 then (some (0, m5)) else (b_X6_isInName_14 sh F m5))))) else (b_X6_isInName_14 sh F m1))))
set_option maxRecDepth 100000 in
set_option maxHeartbeats 4000000 in
theorem tf_X6_isInName {X : gX} {w : gW} {rr : Int32} {rm : gM} (C : gC X w K_X6_isInName 1 RX6 1) (hr : X.2.2.2.2.2.2.2.2.1.sig.returnType = (some .boolean)) {F : Nat} {x0 : Int32} {m : gM} (h : f_X6_isInName w.2.2.2.2.1 F x0 m = some (rr, rm)) : gV X w 0 0 (gR X w (some (.int rr)) rm) 1 0 [(0, .int x0)] [] m := by
  unfold f_X6_isInName at h
  refine v_iload_n (pc := 0) C 0 0 rfl rfl rfl ?_
  obtain ⟨⟨r2, m1⟩, qm1, h⟩ := g_bd h
  replace h := g_nm (y := m1) (g_nm (y := r2) h rfl) rfl
  refine v_callS (pc := 1) C 1 rfl mf_X6_beginsName sm_X6_beginsName lm_ScopeGraph_Tokens_31 (c_X6_beginsName C.2.2.2.2.2.2.2.2.2.2.2 qm1) (by decide) rfl (Nat.le_of_ble_eq_true rfl) ⟨Nat.zero_le _, Nat.zero_le _⟩ rfl ?_
  change gV X w 0 0 (gR X w (some (.int rr)) rm) 1 4 [(0, .int x0)] [.int r2] m1
  refine v_if_ne (pc := 4) C 2 14 rfl (by decide) (fun c4 => ?_) (fun c4 => ?_)
  · replace h := g_ifF c4 h
    refine v_sub [] [] rfl ?_
    exact tb_X6_isInName_14 (F := F) C hr h
  · replace h := g_ifT c4 h
    refine v_iload_n (pc := 7) C 3 0 rfl rfl rfl ?_
    obtain ⟨⟨r6, m5⟩, qm5, h⟩ := g_bd h
    replace h := g_nm (y := m5) (g_nm (y := r6) h rfl) rfl
    refine v_callS (pc := 8) C 4 rfl mf_X6_isDigit sm_X6_isDigit lm_ScopeGraph_Tokens_39 (c_X6_isDigit C.2.2.2.2.2.2.2.2.2.2.2 qm5) (by decide) rfl (Nat.le_of_ble_eq_true rfl) ⟨Nat.zero_le _, Nat.zero_le _⟩ rfl ?_
    change gV X w 0 0 (gR X w (some (.int rr)) rm) 1 11 [(0, .int x0)] [.int r6] m5
    refine v_if_eq (pc := 11) C 5 18 rfl (by decide) (fun c8 => ?_) (fun c8 => ?_)
    · replace h := g_ifT c8 h
      refine v_iconst (pc := 18) C 8 0 rfl (by decide) ?_
      obtain ⟨rfl, rfl⟩ := g_so h
      exact v_zret (pc := 19) C 9 rfl hr (by decide)
    · replace h := g_ifF c8 h
      refine v_sub [] [] rfl ?_
      exact tb_X6_isInName_14 (F := F) C hr h
theorem c_X6_isInName {l : Launch} {w : gW} {rr : Int32} {rm : gM} (hJ : gJok w) {F : Nat} {x0 : Int32} {m : gM} (h : f_X6_isInName w.2.2.2.2.1 F x0 m = some (rr, rm)) : gMet l 1 yX6_isInName cX6_isInName 1 (some .boolean) w [.int x0] m (some (.int rr)) rm :=
  gMet.of hJ mf_X6_isInName dk_X6_isInName (Nat.le_of_ble_eq_true rfl) (fun X _ C hr => tf_X6_isInName (F := F) C hr h)
def f_X6_packByte (sh : List gS) (F : Nat) (x0 : Nat) (x1 : Int32) (x2 : Int32) (m : gM) : Option (gM) :=
  if (6 : Int32) ≤ x1 then (if (12 : Int32) ≤ x1 then (some m) else (g_if (oB sh x0 6) (nm (gsL m x0 4 ((m.2.1 x0 4) ||| ((x2.toInt64) <<< (((88 : Int32) - ((8 : Int32) * x1)).toInt64 &&& 63)))) (fun m4 => some m4)))) else (g_if (oB sh x0 6) (nm (gsL m x0 3 ((m.2.1 x0 3) ||| ((x2.toInt64) <<< (((40 : Int32) - ((8 : Int32) * x1)).toInt64 &&& 63)))) (fun m6 => some m6)))
set_option maxRecDepth 100000 in
set_option maxHeartbeats 4000000 in
theorem tf_X6_packByte {X : gX} {w : gW} {rm : gM} (C : gC X w K_X6_packByte 3 RX6 0) (hr : X.2.2.2.2.2.2.2.2.1.sig.returnType = none) {F : Nat} {x0 : Nat} {x1 : Int32} {x2 : Int32} {m : gM} (h : f_X6_packByte w.2.2.2.2.1 F x0 x1 x2 m = some rm) : gV X w 0 0 (gR X w none rm) 3 0 [(0, .ref x0), (1, .int x1), (2, .int x2)] [] m := by
  unfold f_X6_packByte at h
  refine v_iload_n (pc := 0) C 0 1 rfl rfl rfl ?_
  refine v_bipush (pc := 1) C 1 6 rfl (by decide) ?_
  refine v_icmp_ge (pc := 3) C 2 28 rfl (by decide) (fun c1 => ?_) (fun c1 => ?_)
  · replace h := g_ifT c1 h
    refine v_iload_n (pc := 28) C 17 1 rfl rfl rfl ?_
    refine v_bipush (pc := 29) C 18 12 rfl (by decide) ?_
    refine v_icmp_ge (pc := 31) C 19 53 rfl (by decide) (fun c2 => ?_) (fun c2 => ?_)
    · replace h := g_ifT c2 h
      cases g_s1' h
      exact v_vret (pc := 53) C 33 rfl hr
    · replace h := g_ifF c2 h
      refine v_aload_n (pc := 34) C 20 0 rfl rfl rfl ?_
      refine v_dup (pc := 35) C 21 rfl rfl ?_
      obtain ⟨o3, h⟩ := g_okk h
      refine v_getL (pc := 36) C 22 rfl lf_ScopeGraph_Tokens_65.get (g_oB o3) rfl ?_
      refine v_iload_n (pc := 39) C 23 2 rfl rfl rfl ?_
      refine v_i2l (pc := 40) C 24 rfl ?_
      refine v_bipush (pc := 41) C 25 88 rfl (by decide) ?_
      refine v_bipush (pc := 43) C 26 8 rfl (by decide) ?_
      refine v_iload_n (pc := 45) C 27 1 rfl rfl rfl ?_
      refine v_imul (pc := 46) C 28 rfl ?_
      refine v_isub (pc := 47) C 29 rfl ?_
      refine v_lshl (pc := 48) C 30 rfl ?_
      refine v_lor (pc := 49) C 31 rfl ?_
      refine v_putL (pc := 50) C 32 rfl lf_ScopeGraph_Tokens_65 (g_oB o3) rfl ?_
      refine v_topM (fun m4 em4 => ?_)
      replace h := g_nm h em4
      cases g_s1' h
      exact v_vret (pc := 53) C 33 rfl hr
  · replace h := g_ifF c1 h
    refine v_aload_n (pc := 6) C 3 0 rfl rfl rfl ?_
    refine v_dup (pc := 7) C 4 rfl rfl ?_
    obtain ⟨o5, h⟩ := g_okk h
    refine v_getL (pc := 8) C 5 rfl lf_ScopeGraph_Tokens_61.get (g_oB o5) rfl ?_
    refine v_iload_n (pc := 11) C 6 2 rfl rfl rfl ?_
    refine v_i2l (pc := 12) C 7 rfl ?_
    refine v_bipush (pc := 13) C 8 40 rfl (by decide) ?_
    refine v_bipush (pc := 15) C 9 8 rfl (by decide) ?_
    refine v_iload_n (pc := 17) C 10 1 rfl rfl rfl ?_
    refine v_imul (pc := 18) C 11 rfl ?_
    refine v_isub (pc := 19) C 12 rfl ?_
    refine v_lshl (pc := 20) C 13 rfl ?_
    refine v_lor (pc := 21) C 14 rfl ?_
    refine v_putL (pc := 22) C 15 rfl lf_ScopeGraph_Tokens_61 (g_oB o5) rfl ?_
    refine v_topM (fun m6 em6 => ?_)
    replace h := g_nm h em6
    refine v_goto (pc := 25) C 16 53 rfl (by decide) ?_
    cases g_s1' h
    exact v_vret (pc := 53) C 33 rfl hr
theorem c_X6_packByte {l : Launch} {w : gW} {rm : gM} (hJ : gJok w) {F : Nat} {x0 : Nat} {x1 : Int32} {x2 : Int32} {m : gM} (h : f_X6_packByte w.2.2.2.2.1 F x0 x1 x2 m = some rm) : gMet l 0 yX6_packByte cX6_packByte 3 none w [.ref x0, .int x1, .int x2] m none rm :=
  gMet.of hJ mf_X6_packByte dk_X6_packByte (Nat.le_of_ble_eq_true rfl) (fun X _ C hr => tf_X6_packByte (F := F) C hr h)
def b_X6_takeNumber_55 (sh : List gS) (F : Nat) (y0 : Int32) (y1 : Nat) (m : gM) : Option (gM) :=
  g_if (oB sh y1 6) (nm (gsI m y1 0 y0) (fun m2 => some m2))
set_option maxRecDepth 100000 in
set_option maxHeartbeats 4000000 in
theorem tb_X6_takeNumber_55 {X : gX} {w : gW} {rm : gM} (C : gC X w K_X6_takeNumber 3 RX6 1) (hr : X.2.2.2.2.2.2.2.2.1.sig.returnType = none) {F : Nat} {y0 : Int32} {y1 : Nat} {m : gM} (h : b_X6_takeNumber_55 w.2.2.2.2.1 F y0 y1 m = some rm) : gV X w 0 0 (gR X w none rm) 3 55 [] [.int y0, .ref y1] m := by
  unfold b_X6_takeNumber_55 at h
  obtain ⟨o1, h⟩ := g_okk h
  refine v_putI (pc := 55) C 26 rfl lf_ScopeGraph_Tokens_28 (g_oB o1) rfl ?_
  refine v_topM (fun m2 em2 => ?_)
  replace h := g_nm h em2
  cases g_s1' h
  exact v_vret (pc := 58) C 27 rfl hr
def b_X6_takeNumber_31 (sh : List gS) (F : Nat) (x0 : Nat) (x2 : Int32) (m : gM) : Option (gM) :=
  g_if (oB sh x0 6) (nm (gsI m x0 2 x2) (fun m2 => if (m2.1 x0 2) ≤ (9 : Int32) then (b_X6_takeNumber_55 sh F 265 x0 m2) else (b_X6_takeNumber_55 sh F 267 x0 m2)))
set_option maxRecDepth 100000 in
set_option maxHeartbeats 4000000 in
theorem tb_X6_takeNumber_31 {X : gX} {w : gW} {rm : gM} (C : gC X w K_X6_takeNumber 3 RX6 1) (hr : X.2.2.2.2.2.2.2.2.1.sig.returnType = none) {F : Nat} {x0 : Nat} {x2 : Int32} {m : gM} (h : b_X6_takeNumber_31 w.2.2.2.2.1 F x0 x2 m = some rm) : gV X w 0 0 (gR X w none rm) 3 31 [(0, .ref x0), (2, .int x2)] [] m := by
  unfold b_X6_takeNumber_31 at h
  refine v_aload_n (pc := 31) C 15 0 rfl rfl rfl ?_
  refine v_iload_n (pc := 32) C 16 1 rfl rfl rfl ?_
  obtain ⟨o1, h⟩ := g_okk h
  refine v_putI (pc := 33) C 17 rfl lf_ScopeGraph_Tokens_15 (g_oB o1) rfl ?_
  refine v_topM (fun m2 em2 => ?_)
  replace h := g_nm h em2
  refine v_aload_n (pc := 36) C 18 0 rfl rfl rfl ?_
  refine v_aload_n (pc := 37) C 19 0 rfl rfl rfl ?_
  refine v_getI (pc := 38) C 20 rfl lf_ScopeGraph_Tokens_15.get (g_oB o1) rfl ?_
  refine v_bipush (pc := 41) C 21 9 rfl (by decide) ?_
  refine v_icmp_le (pc := 43) C 22 52 rfl (by decide) (fun c3 => ?_) (fun c3 => ?_)
  · replace h := g_ifT c3 h
    refine v_sipush (pc := 52) C 25 265 rfl (by decide) ?_
    refine v_sub [] [] rfl ?_
    exact tb_X6_takeNumber_55 (F := F) C hr h
  · replace h := g_ifF c3 h
    refine v_sipush (pc := 46) C 23 267 rfl (by decide) ?_
    refine v_goto (pc := 49) C 24 55 rfl (by decide) ?_
    refine v_sub [] [] rfl ?_
    exact tb_X6_takeNumber_55 (F := F) C hr h
def b_X6_takeNumber_2 (sh : List gS) (F : Nat) (k2 : Nat → Nat → Int32 → gM → Option (gM)) (x0 : Nat) (x1 : Nat) (x2 : Int32) (m : gM) : Option (gM) :=
  if (4000 : Int32) ≤ x2 then (b_X6_takeNumber_31 sh F x0 x2 m) else (g_if (oB sh x0 6) (g_if (oB sh x1 5) ((f_X5_at sh F x1 ((m.1 x0 1) + x2) m).bind (fun q6 => nm q6.1 (fun r5 => nm q6.2 (fun m4 => (f_X6_isDigit sh F r5 m4).bind (fun q9 => nm q9.1 (fun r8 => nm q9.2 (fun m7 => if r8 = 0 then (b_X6_takeNumber_31 sh F x0 x2 m7) else (nm (x2 + Int32.ofInt 1) (fun v11 => k2 x0 x1 v11 m7)))))))))))
set_option maxRecDepth 100000 in
set_option maxHeartbeats 4000000 in
theorem tb_X6_takeNumber_2 {X : gX} {w : gW} {rm : gM} (C : gC X w K_X6_takeNumber 3 RX6 1) (hr : X.2.2.2.2.2.2.2.2.1.sig.returnType = none) {F : Nat} {k2 : Nat → Nat → Int32 → gM → Option (gM)} (hk2 : ∀ (z0 : Nat) (z1 : Nat) (z2 : Int32) (m : gM), k2 z0 z1 z2 m = some rm → gV X w 0 0 (gR X w none rm) 3 2 [(0, .ref z0), (1, .ref z1), (2, .int z2)] [] m) {x0 : Nat} {x1 : Nat} {x2 : Int32} {m : gM} (h : b_X6_takeNumber_2 w.2.2.2.2.1 F k2 x0 x1 x2 m = some rm) : gV X w 0 0 (gR X w none rm) 3 2 [(0, .ref x0), (1, .ref x1), (2, .int x2)] [] m := by
  unfold b_X6_takeNumber_2 at h
  refine v_iload_n (pc := 2) C 2 2 rfl rfl rfl ?_
  refine v_sipush (pc := 3) C 3 4000 rfl (by decide) ?_
  refine v_icmp_ge (pc := 6) C 4 31 rfl (by decide) (fun c1 => ?_) (fun c1 => ?_)
  · replace h := g_ifT c1 h
    refine v_sub [(0, .ref x0), (2, .int x2)] [0, 2] rfl ?_
    exact tb_X6_takeNumber_31 (F := F) C hr h
  · replace h := g_ifF c1 h
    refine v_aload_n (pc := 9) C 5 1 rfl rfl rfl ?_
    refine v_aload_n (pc := 10) C 6 0 rfl rfl rfl ?_
    obtain ⟨o2, h⟩ := g_okk h
    refine v_getI (pc := 11) C 7 rfl lf_ScopeGraph_Tokens_9.get (g_oB o2) rfl ?_
    refine v_iload_n (pc := 14) C 8 2 rfl rfl rfl ?_
    refine v_iadd (pc := 15) C 9 rfl ?_
    obtain ⟨o3, h⟩ := g_okk h
    obtain ⟨⟨r5, m4⟩, qm4, h⟩ := g_bd h
    replace h := g_nm (y := m4) (g_nm (y := r5) h rfl) rfl
    refine v_callV (pc := 16) C 10 rfl mf_X5_at clX5 rfl im_X5_at lm_ScopeGraph_Tokens_22 (c_X5_at C.2.2.2.2.2.2.2.2.2.2.2 qm4) (by decide) rfl (g_oB o3) (Nat.le_of_ble_eq_true rfl) ⟨Nat.zero_le _, Nat.zero_le _⟩ rfl ?_
    change gV X w 0 0 (gR X w none rm) 3 19 [(0, .ref x0), (1, .ref x1), (2, .int x2)] [.int r5] m4
    obtain ⟨⟨r8, m7⟩, qm7, h⟩ := g_bd h
    replace h := g_nm (y := m7) (g_nm (y := r8) h rfl) rfl
    refine v_callS (pc := 19) C 11 rfl mf_X6_isDigit sm_X6_isDigit lm_ScopeGraph_Tokens_39 (c_X6_isDigit C.2.2.2.2.2.2.2.2.2.2.2 qm7) (by decide) rfl (Nat.le_of_ble_eq_true rfl) ⟨Nat.zero_le _, Nat.zero_le _⟩ rfl ?_
    change gV X w 0 0 (gR X w none rm) 3 22 [(0, .ref x0), (1, .ref x1), (2, .int x2)] [.int r8] m7
    refine v_if_eq (pc := 22) C 12 31 rfl (by decide) (fun c10 => ?_) (fun c10 => ?_)
    · replace h := g_ifT c10 h
      refine v_sub [(0, .ref x0), (2, .int x2)] [0, 2] rfl ?_
      exact tb_X6_takeNumber_31 (F := F) C hr h
    · replace h := g_ifF c10 h
      refine v_iincN (pc := 25) C 13 2 (fun v11 => [(2, .int v11), (0, .ref x0), (1, .ref x1)]) rfl rfl (by decide) (fun _ => rfl) (fun v11 ev11 => ?_)
      replace h := g_nm h ev11
      refine v_goto (pc := 28) C 14 2 rfl (by decide) ?_
      refine v_sub [(0, .ref x0), (1, .ref x1), (2, .int v11)] [1, 2, 0] rfl ?_
      exact hk2 _ _ _ _ h
def l_X6_takeNumber_2 (sh : List gS) (F : Nat) : Nat → Nat → Nat → Int32 → gM → Option (gM)
  | 0 => fun _ _ _ _ => none
  | n + 1 => fun x0 x1 x2 m => b_X6_takeNumber_2 sh F (l_X6_takeNumber_2 sh F n) x0 x1 x2 m
theorem tl_X6_takeNumber_2 {X : gX} {w : gW} {rm : gM} (C : gC X w K_X6_takeNumber 3 RX6 1) (hr : X.2.2.2.2.2.2.2.2.1.sig.returnType = none) {F : Nat} : ∀ (n : Nat) (x0 : Nat) (x1 : Nat) (x2 : Int32) (m : gM), l_X6_takeNumber_2 w.2.2.2.2.1 F n x0 x1 x2 m = some rm → gV X w 0 0 (gR X w none rm) 3 2 [(0, .ref x0), (1, .ref x1), (2, .int x2)] [] m := by
  intro n
  induction n with
  | zero => intro x0 x1 x2 m h; cases h
  | succ n ih => intro x0 x1 x2 m h; exact tb_X6_takeNumber_2 (F := F) C hr ih h
def f_X6_takeNumber (sh : List gS) (F : Nat) (x0 : Nat) (x1 : Nat) (m : gM) : Option (gM) :=
  l_X6_takeNumber_2 sh F F x0 x1 0 m
set_option maxRecDepth 100000 in
set_option maxHeartbeats 4000000 in
theorem tf_X6_takeNumber {X : gX} {w : gW} {rm : gM} (C : gC X w K_X6_takeNumber 3 RX6 1) (hr : X.2.2.2.2.2.2.2.2.1.sig.returnType = none) {F : Nat} {x0 : Nat} {x1 : Nat} {m : gM} (h : f_X6_takeNumber w.2.2.2.2.1 F x0 x1 m = some rm) : gV X w 0 0 (gR X w none rm) 3 0 [(0, .ref x0), (1, .ref x1)] [] m := by
  unfold f_X6_takeNumber at h
  refine v_iconst (pc := 0) C 0 0 rfl (by decide) ?_
  refine v_istore_n (pc := 1) (lv' := [(2, .int 0), (0, .ref x0), (1, .ref x1)]) C 1 rfl rfl (by decide) rfl ?_
  refine v_sub [(0, .ref x0), (1, .ref x1), (2, .int 0)] [1, 2, 0] rfl ?_
  exact tl_X6_takeNumber_2 (F := F) C hr _ _ _ _ _ h
theorem c_X6_takeNumber {l : Launch} {w : gW} {rm : gM} (hJ : gJok w) {F : Nat} {x0 : Nat} {x1 : Nat} {m : gM} (h : f_X6_takeNumber w.2.2.2.2.1 F x0 x1 m = some rm) : gMet l 1 yX6_takeNumber cX6_takeNumber 3 none w [.ref x0, .ref x1] m none rm :=
  gMet.of hJ mf_X6_takeNumber dk_X6_takeNumber (Nat.le_of_ble_eq_true rfl) (fun X _ C hr => tf_X6_takeNumber (F := F) C hr h)
def f_X6_begin (sh : List gS) (F : Nat) (x0 : Nat) (m : gM) : Option (gM) :=
  g_if (oB sh x0 6) (nm (gsI m x0 1 0) (fun m2 => nm (gsI m2 x0 2 0) (fun m3 => some m3)))
set_option maxRecDepth 100000 in
set_option maxHeartbeats 4000000 in
theorem tf_X6_begin {X : gX} {w : gW} {rm : gM} (C : gC X w K_X6_begin 1 RX6 0) (hr : X.2.2.2.2.2.2.2.2.1.sig.returnType = none) {F : Nat} {x0 : Nat} {m : gM} (h : f_X6_begin w.2.2.2.2.1 F x0 m = some rm) : gV X w 0 0 (gR X w none rm) 1 0 [(0, .ref x0)] [] m := by
  unfold f_X6_begin at h
  refine v_aload_n (pc := 0) C 0 0 rfl rfl rfl ?_
  refine v_iconst (pc := 1) C 1 0 rfl (by decide) ?_
  obtain ⟨o1, h⟩ := g_okk h
  refine v_putI (pc := 2) C 2 rfl lf_ScopeGraph_Tokens_9 (g_oB o1) rfl ?_
  refine v_topM (fun m2 em2 => ?_)
  replace h := g_nm h em2
  refine v_aload_n (pc := 5) C 3 0 rfl rfl rfl ?_
  refine v_iconst (pc := 6) C 4 0 rfl (by decide) ?_
  refine v_putI (pc := 7) C 5 rfl lf_ScopeGraph_Tokens_15 (g_oB o1) rfl ?_
  refine v_topM (fun m3 em3 => ?_)
  replace h := g_nm h em3
  cases g_s1' h
  exact v_vret (pc := 10) C 6 rfl hr
theorem c_X6_begin {l : Launch} {w : gW} {rm : gM} (hJ : gJok w) {F : Nat} {x0 : Nat} {m : gM} (h : f_X6_begin w.2.2.2.2.1 F x0 m = some rm) : gMet l 0 yX6_begin cX6_begin 1 none w [.ref x0] m none rm :=
  gMet.of hJ mf_X6_begin dk_X6_begin (Nat.le_of_ble_eq_true rfl) (fun X _ C hr => tf_X6_begin (F := F) C hr h)
def f_X3_place (sh : List gS) (F : Nat) (x0 : Nat) (m : gM) : Option (Int32 × gM) :=
  g_if (oB sh x0 3) ((m.2.2 x0 0).bind (fun t2 => g_if (oB sh t2 6) (some (m.1 t2 1, m))))
set_option maxRecDepth 100000 in
set_option maxHeartbeats 4000000 in
theorem tf_X3_place {X : gX} {w : gW} {rr : Int32} {rm : gM} (C : gC X w K_X3_place 1 RX3 0) (hr : X.2.2.2.2.2.2.2.2.1.sig.returnType = (some .int)) {F : Nat} {x0 : Nat} {m : gM} (h : f_X3_place w.2.2.2.2.1 F x0 m = some (rr, rm)) : gV X w 0 0 (gR X w (some (.int rr)) rm) 1 0 [(0, .ref x0)] [] m := by
  unfold f_X3_place at h
  refine v_aload_n (pc := 0) C 0 0 rfl rfl rfl ?_
  obtain ⟨o1, h⟩ := g_okk h
  obtain ⟨t2, qt2, h⟩ := g_bd h
  refine v_getR (pc := 1) C 1 rfl lf_ScopeGraph_Reader_12 (g_oB o1) rfl qt2 ?_
  obtain ⟨o3, h⟩ := g_okk h
  refine v_getI (pc := 4) C 2 rfl lf_ScopeGraph_Reader_64.get (g_oB o3) rfl ?_
  obtain ⟨rfl, rfl⟩ := g_so h
  exact v_iret (pc := 7) C 3 rfl hr
theorem c_X3_place {l : Launch} {w : gW} {rr : Int32} {rm : gM} (hJ : gJok w) {F : Nat} {x0 : Nat} {m : gM} (h : f_X3_place w.2.2.2.2.1 F x0 m = some (rr, rm)) : gMet l 0 yX3_place cX3_place 1 (some .int) w [.ref x0] m (some (.int rr)) rm :=
  gMet.of hJ mf_X3_place dk_X3_place (Nat.le_of_ble_eq_true rfl) (fun X _ C hr => tf_X3_place (F := F) C hr h)
def b_X4_importedBy_61 (sh : List gS) (F : Nat) (k20 : Nat → Int32 → Int32 → Int64 → Int32 → gM → Option (Int64 × gM)) (x0 : Nat) (x2 : Int32) (x3 : Int32) (x6 : Int32) (y0 : Int64) (y1 : Int64) (m : gM) : Option (Int64 × gM) :=
  nm (y1 ||| y0) (fun v1 => nm (x6 + Int32.ofInt 1) (fun v2 => k20 x0 x2 x3 v1 v2 m))
set_option maxRecDepth 100000 in
set_option maxHeartbeats 4000000 in
theorem tb_X4_importedBy_61 {X : gX} {w : gW} {rr : Int64} {rm : gM} (C : gC X w K_X4_importedBy 7 RX4 0) (hr : X.2.2.2.2.2.2.2.2.1.sig.returnType = (some .long)) {F : Nat} {k20 : Nat → Int32 → Int32 → Int64 → Int32 → gM → Option (Int64 × gM)} (hk20 : ∀ (z0 : Nat) (z2 : Int32) (z3 : Int32) (z4 : Int64) (z6 : Int32) (m : gM), k20 z0 z2 z3 z4 z6 m = some (rr, rm) → gV X w 0 0 (gR X w (some (.long rr)) rm) 7 20 [(0, .ref z0), (2, .int z2), (3, .int z3), (4, .long z4), (6, .int z6)] [] m) {x0 : Nat} {x2 : Int32} {x3 : Int32} {x6 : Int32} {y0 : Int64} {y1 : Int64} {m : gM} (h : b_X4_importedBy_61 w.2.2.2.2.1 F k20 x0 x2 x3 x6 y0 y1 m = some (rr, rm)) : gV X w 0 0 (gR X w (some (.long rr)) rm) 7 61 [(0, .ref x0), (2, .int x2), (3, .int x3), (6, .int x6)] [.long y0, .long y1] m := by
  unfold b_X4_importedBy_61 at h
  refine v_lor (pc := 61) C 38 rfl ?_
  refine v_topJ (fun v1 ev1 => ?_)
  replace h := g_nm h ev1
  refine v_lstore (pc := 62) (lv' := [(4, .long v1), (0, .ref x0), (2, .int x2), (3, .int x3), (6, .int x6)]) C 39 rfl (by decide) rfl ?_
  refine v_iincN (pc := 64) C 40 4 (fun v2 => [(6, .int v2), (4, .long v1), (0, .ref x0), (2, .int x2), (3, .int x3)]) rfl rfl (by decide) (fun _ => rfl) (fun v2 ev2 => ?_)
  replace h := g_nm h ev2
  refine v_goto (pc := 67) C 41 20 rfl (by decide) ?_
  refine v_sub [(0, .ref x0), (2, .int x2), (3, .int x3), (4, .long v1), (6, .int v2)] [2, 3, 4, 1, 0] rfl ?_
  exact hk20 _ _ _ _ _ _ h
def b_X4_importedBy_20 (sh : List gS) (F : Nat) (k20 : Nat → Int32 → Int32 → Int64 → Int32 → gM → Option (Int64 × gM)) (x0 : Nat) (x2 : Int32) (x3 : Int32) (x4 : Int64) (x6 : Int32) (m : gM) : Option (Int64 × gM) :=
  if (6 : Int32) ≤ x6 then (some (x4, m)) else (if (x3 >>> (x6 &&& 31)) = 0 then (some (x4, m)) else (if ((x3 >>> (x6 &&& 31)) &&& (1 : Int32)) = 0 then (b_X4_importedBy_61 sh F k20 x0 x2 x3 x6 0 x4 m) else (g_if (oB sh x0 4) ((m.2.2 x0 0).bind (fun t5 => g_if (aB sh t5 .long ((x2 * (6 : Int32)) + x6)) (b_X4_importedBy_61 sh F k20 x0 x2 x3 x6 (m.2.1 t5 ((x2 * (6 : Int32)) + x6).toNatClampNeg) x4 m))))))
set_option maxRecDepth 100000 in
set_option maxHeartbeats 4000000 in
theorem tb_X4_importedBy_20 {X : gX} {w : gW} {rr : Int64} {rm : gM} (C : gC X w K_X4_importedBy 7 RX4 0) (hr : X.2.2.2.2.2.2.2.2.1.sig.returnType = (some .long)) {F : Nat} {k20 : Nat → Int32 → Int32 → Int64 → Int32 → gM → Option (Int64 × gM)} (hk20 : ∀ (z0 : Nat) (z2 : Int32) (z3 : Int32) (z4 : Int64) (z6 : Int32) (m : gM), k20 z0 z2 z3 z4 z6 m = some (rr, rm) → gV X w 0 0 (gR X w (some (.long rr)) rm) 7 20 [(0, .ref z0), (2, .int z2), (3, .int z3), (4, .long z4), (6, .int z6)] [] m) {x0 : Nat} {x2 : Int32} {x3 : Int32} {x4 : Int64} {x6 : Int32} {m : gM} (h : b_X4_importedBy_20 w.2.2.2.2.1 F k20 x0 x2 x3 x4 x6 m = some (rr, rm)) : gV X w 0 0 (gR X w (some (.long rr)) rm) 7 20 [(0, .ref x0), (2, .int x2), (3, .int x3), (4, .long x4), (6, .int x6)] [] m := by
  unfold b_X4_importedBy_20 at h
  refine v_iload (pc := 20) C 14 4 rfl rfl ?_
  refine v_bipush (pc := 22) C 15 6 rfl (by decide) ?_
  refine v_icmp_ge (pc := 24) C 16 70 rfl (by decide) (fun c1 => ?_) (fun c1 => ?_)
  · replace h := g_ifT c1 h
    refine v_lload (pc := 70) C 42 3 rfl rfl ?_
    obtain ⟨rfl, rfl⟩ := g_so h
    exact v_lret (pc := 72) C 43 rfl hr
  · replace h := g_ifF c1 h
    refine v_iload_n (pc := 27) C 17 2 rfl rfl rfl ?_
    refine v_iload (pc := 28) C 18 4 rfl rfl ?_
    refine v_ishr (pc := 30) C 19 rfl ?_
    refine v_if_eq (pc := 31) C 20 70 rfl (by decide) (fun c2 => ?_) (fun c2 => ?_)
    · replace h := g_ifT c2 h
      refine v_lload (pc := 70) C 42 3 rfl rfl ?_
      obtain ⟨rfl, rfl⟩ := g_so h
      exact v_lret (pc := 72) C 43 rfl hr
    · replace h := g_ifF c2 h
      refine v_lload (pc := 34) C 21 3 rfl rfl ?_
      refine v_iload_n (pc := 36) C 22 2 rfl rfl rfl ?_
      refine v_iload (pc := 37) C 23 4 rfl rfl ?_
      refine v_ishr (pc := 39) C 24 rfl ?_
      refine v_iconst (pc := 40) C 25 1 rfl (by decide) ?_
      refine v_iand (pc := 41) C 26 rfl ?_
      refine v_if_eq (pc := 42) C 27 60 rfl (by decide) (fun c3 => ?_) (fun c3 => ?_)
      · replace h := g_ifT c3 h
        refine v_lconst (pc := 60) C 37 0 rfl (by decide) ?_
        refine v_sub [(0, .ref x0), (2, .int x2), (3, .int x3), (6, .int x6)] [0, 1, 2, 4] rfl ?_
        exact tb_X4_importedBy_61 (F := F) C hr hk20 h
      · replace h := g_ifF c3 h
        refine v_aload_n (pc := 45) C 28 0 rfl rfl rfl ?_
        obtain ⟨o4, h⟩ := g_okk h
        obtain ⟨t5, qt5, h⟩ := g_bd h
        refine v_getR (pc := 46) C 29 rfl lf_ScopeGraph_Resolver_11 (g_oB o4) rfl qt5 ?_
        refine v_iload_n (pc := 49) C 30 1 rfl rfl rfl ?_
        refine v_bipush (pc := 50) C 31 6 rfl (by decide) ?_
        refine v_imul (pc := 52) C 32 rfl ?_
        refine v_iload (pc := 53) C 33 4 rfl rfl ?_
        refine v_iadd (pc := 55) C 34 rfl ?_
        obtain ⟨b6, h⟩ := g_okk h
        refine v_lald' (pc := 56) C 35 rfl b6 ?_
        refine v_goto (pc := 57) C 36 61 rfl (by decide) ?_
        refine v_sub [(0, .ref x0), (2, .int x2), (3, .int x3), (6, .int x6)] [0, 1, 2, 4] rfl ?_
        exact tb_X4_importedBy_61 (F := F) C hr hk20 h
def l_X4_importedBy_20 (sh : List gS) (F : Nat) : Nat → Nat → Int32 → Int32 → Int64 → Int32 → gM → Option (Int64 × gM)
  | 0 => fun _ _ _ _ _ _ => none
  | n + 1 => fun x0 x2 x3 x4 x6 m => b_X4_importedBy_20 sh F (l_X4_importedBy_20 sh F n) x0 x2 x3 x4 x6 m
theorem tl_X4_importedBy_20 {X : gX} {w : gW} {rr : Int64} {rm : gM} (C : gC X w K_X4_importedBy 7 RX4 0) (hr : X.2.2.2.2.2.2.2.2.1.sig.returnType = (some .long)) {F : Nat} : ∀ (n : Nat) (x0 : Nat) (x2 : Int32) (x3 : Int32) (x4 : Int64) (x6 : Int32) (m : gM), l_X4_importedBy_20 w.2.2.2.2.1 F n x0 x2 x3 x4 x6 m = some (rr, rm) → gV X w 0 0 (gR X w (some (.long rr)) rm) 7 20 [(0, .ref x0), (2, .int x2), (3, .int x3), (4, .long x4), (6, .int x6)] [] m := by
  intro n
  induction n with
  | zero => intro x0 x2 x3 x4 x6 m h; cases h
  | succ n ih => intro x0 x2 x3 x4 x6 m h; exact tb_X4_importedBy_20 (F := F) C hr ih h
def f_X4_importedBy (sh : List gS) (F : Nat) (x0 : Nat) (x1 : Int32) (x2 : Int32) (m : gM) : Option (Int64 × gM) :=
  g_if (oB sh x0 4) ((m.2.2 x0 1).bind (fun t2 => g_if (oB sh t2 2) ((m.2.2 t2 5).bind (fun t4 => g_if (aB sh t4 .int x1) (nm ((m.1 t4 (x1).toNatClampNeg) &&& (x2 ^^^ ((-1) : Int32))) (fun v6 => l_X4_importedBy_20 sh F F x0 x2 v6 0 0 m))))))
set_option maxRecDepth 100000 in
set_option maxHeartbeats 4000000 in
theorem tf_X4_importedBy {X : gX} {w : gW} {rr : Int64} {rm : gM} (C : gC X w K_X4_importedBy 7 RX4 0) (hr : X.2.2.2.2.2.2.2.2.1.sig.returnType = (some .long)) {F : Nat} {x0 : Nat} {x1 : Int32} {x2 : Int32} {m : gM} (h : f_X4_importedBy w.2.2.2.2.1 F x0 x1 x2 m = some (rr, rm)) : gV X w 0 0 (gR X w (some (.long rr)) rm) 7 0 [(0, .ref x0), (1, .int x1), (2, .int x2)] [] m := by
  unfold f_X4_importedBy at h
  refine v_aload_n (pc := 0) C 0 0 rfl rfl rfl ?_
  obtain ⟨o1, h⟩ := g_okk h
  obtain ⟨t2, qt2, h⟩ := g_bd h
  refine v_getR (pc := 1) C 1 rfl lf_ScopeGraph_Resolver_15.get (g_oB o1) rfl qt2 ?_
  obtain ⟨o3, h⟩ := g_okk h
  obtain ⟨t4, qt4, h⟩ := g_bd h
  refine v_getR (pc := 4) C 2 rfl lf_ScopeGraph_Resolver_110 (g_oB o3) rfl qt4 ?_
  refine v_iload_n (pc := 7) C 3 1 rfl rfl rfl ?_
  obtain ⟨b5, h⟩ := g_okk h
  refine v_iald' (pc := 8) C 4 rfl b5 ?_
  refine v_iload_n (pc := 9) C 5 2 rfl rfl rfl ?_
  refine v_iconst (pc := 10) C 6 (-1) rfl (by decide) ?_
  refine v_ixor (pc := 11) C 7 rfl ?_
  refine v_iand (pc := 12) C 8 rfl ?_
  refine v_topI (fun v6 ev6 => ?_)
  replace h := g_nm h ev6
  refine v_istore_n (pc := 13) (lv' := [(3, .int v6), (0, .ref x0), (1, .int x1), (2, .int x2)]) C 9 rfl rfl (by decide) rfl ?_
  refine v_lconst (pc := 14) C 10 0 rfl (by decide) ?_
  refine v_lstore (pc := 15) (lv' := [(4, .long 0), (3, .int v6), (0, .ref x0), (1, .int x1), (2, .int x2)]) C 11 rfl (by decide) rfl ?_
  refine v_iconst (pc := 17) C 12 0 rfl (by decide) ?_
  refine v_istore (pc := 18) (lv' := [(6, .int 0), (4, .long 0), (3, .int v6), (0, .ref x0), (1, .int x1), (2, .int x2)]) C 13 rfl (by decide) rfl ?_
  refine v_sub [(0, .ref x0), (2, .int x2), (3, .int v6), (4, .long 0), (6, .int 0)] [3, 5, 2, 1, 0] rfl ?_
  exact tl_X4_importedBy_20 (F := F) C hr _ _ _ _ _ _ _ h
theorem c_X4_importedBy {l : Launch} {w : gW} {rr : Int64} {rm : gM} (hJ : gJok w) {F : Nat} {x0 : Nat} {x1 : Int32} {x2 : Int32} {m : gM} (h : f_X4_importedBy w.2.2.2.2.1 F x0 x1 x2 m = some (rr, rm)) : gMet l 0 yX4_importedBy cX4_importedBy 7 (some .long) w [.ref x0, .int x1, .int x2] m (some (.long rr)) rm :=
  gMet.of hJ mf_X4_importedBy dk_X4_importedBy (Nat.le_of_ble_eq_true rfl) (fun X _ C hr => tf_X4_importedBy (F := F) C hr h)
def b_X4_local_90 (sh : List gS) (F : Nat) (k12 : Nat → Int64 → Int32 → Int64 → Int64 → Int64 → Int32 → gM → Option (Int64 × gM)) (x0 : Nat) (x1 : Int64) (x5 : Int32) (x6 : Int64) (x10 : Int64) (x12 : Int32) (y0 : Int64) (y1 : Int64) (m : gM) : Option (Int64 × gM) :=
  nm (y1 ||| y0) (fun v1 => nm (v1 &&& (x6 ^^^ (-1))) (fun v2 => nm (x12 + Int32.ofInt 1) (fun v3 => k12 x0 x1 x5 x6 v2 x10 v3 m)))
set_option maxRecDepth 100000 in
set_option maxHeartbeats 4000000 in
theorem tb_X4_local_90 {X : gX} {w : gW} {rr : Int64} {rm : gM} (C : gC X w K_X4_local 16 RX4 2) (hr : X.2.2.2.2.2.2.2.2.1.sig.returnType = (some .long)) {F : Nat} {k12 : Nat → Int64 → Int32 → Int64 → Int64 → Int64 → Int32 → gM → Option (Int64 × gM)} (hk12 : ∀ (z0 : Nat) (z1 : Int64) (z5 : Int32) (z6 : Int64) (z8 : Int64) (z10 : Int64) (z12 : Int32) (m : gM), k12 z0 z1 z5 z6 z8 z10 z12 m = some (rr, rm) → gV X w 0 0 (gR X w (some (.long rr)) rm) 16 12 [(0, .ref z0), (1, .long z1), (5, .int z5), (6, .long z6), (8, .long z8), (10, .long z10), (12, .int z12)] [] m) {x0 : Nat} {x1 : Int64} {x5 : Int32} {x6 : Int64} {x10 : Int64} {x12 : Int32} {y0 : Int64} {y1 : Int64} {m : gM} (h : b_X4_local_90 w.2.2.2.2.1 F k12 x0 x1 x5 x6 x10 x12 y0 y1 m = some (rr, rm)) : gV X w 0 0 (gR X w (some (.long rr)) rm) 16 90 [(0, .ref x0), (1, .long x1), (5, .int x5), (6, .long x6), (10, .long x10), (12, .int x12)] [.long y0, .long y1] m := by
  unfold b_X4_local_90 at h
  refine v_lor (pc := 90) C 51 rfl ?_
  refine v_topJ (fun v1 ev1 => ?_)
  replace h := g_nm h ev1
  refine v_lstore (pc := 91) (lv' := [(8, .long v1), (0, .ref x0), (1, .long x1), (5, .int x5), (6, .long x6), (10, .long x10), (12, .int x12)]) C 52 rfl (by decide) rfl ?_
  refine v_lload (pc := 93) C 53 0 rfl rfl ?_
  refine v_lload (pc := 95) C 54 4 rfl rfl ?_
  refine v_ldc2 (pc := 97) C 55 (v := -1) rfl (g_tb 708 (by decide +kernel) rfl) ?_
  refine v_lxor (pc := 100) C 56 rfl ?_
  refine v_land (pc := 101) C 57 rfl ?_
  refine v_topJ (fun v2 ev2 => ?_)
  replace h := g_nm h ev2
  refine v_lstore (pc := 102) (lv' := [(8, .long v2), (0, .ref x0), (1, .long x1), (5, .int x5), (6, .long x6), (10, .long x10), (12, .int x12)]) C 58 rfl (by decide) rfl ?_
  refine v_iincN (pc := 104) C 59 6 (fun v3 => [(12, .int v3), (8, .long v2), (0, .ref x0), (1, .long x1), (5, .int x5), (6, .long x6), (10, .long x10)]) rfl rfl (by decide) (fun _ => rfl) (fun v3 ev3 => ?_)
  replace h := g_nm h ev3
  refine v_goto (pc := 107) C 60 12 rfl (by decide) ?_
  refine v_sub [(0, .ref x0), (1, .long x1), (5, .int x5), (6, .long x6), (8, .long v2), (10, .long x10), (12, .int v3)] [2, 3, 4, 5, 1, 6, 0] rfl ?_
  exact hk12 _ _ _ _ _ _ _ _ h
def b_X4_local_12 (sh : List gS) (F : Nat) (k12 : Nat → Int64 → Int32 → Int64 → Int64 → Int64 → Int32 → gM → Option (Int64 × gM)) (x0 : Nat) (x1 : Int64) (x5 : Int32) (x6 : Int64) (x8 : Int64) (x10 : Int64) (x12 : Int32) (m : gM) : Option (Int64 × gM) :=
  if (64 : Int32) ≤ x12 then (some (x10, m)) else (if x1 = (0 : Int64) then (some (x10, m)) else (if x8 = (0 : Int64) then (some (x10, m)) else ((f_X7_lowest sh F x8 m).bind (fun q6 => nm q6.1 (fun r5 => nm q6.2 (fun m4 => nm (x6 ||| ((1 : Int64) <<< (r5.toInt64 &&& 63))) (fun v7 => g_if (oB sh x0 4) ((m4.2.2 x0 1).bind (fun t9 => g_if (oB sh t9 2) ((m4.2.2 t9 4).bind (fun t11 => g_if (aB sh t11 .long r5) (nm (x1 &&& (m4.2.1 t11 (r5).toNatClampNeg)) (fun v13 => nm (x10 ||| v13) (fun v14 => if v13 = (0 : Int64) then ((f_X4_importedBy sh F x0 r5 x5 m4).bind (fun q18 => nm q18.1 (fun r17 => nm q18.2 (fun m16 => b_X4_local_90 sh F k12 x0 x1 x5 v7 v14 x12 r17 x8 m16)))) else (b_X4_local_90 sh F k12 x0 x1 x5 v7 v14 x12 0 x8 m4)))))))))))))))
set_option maxRecDepth 100000 in
set_option maxHeartbeats 4000000 in
theorem tb_X4_local_12 {X : gX} {w : gW} {rr : Int64} {rm : gM} (C : gC X w K_X4_local 16 RX4 2) (hr : X.2.2.2.2.2.2.2.2.1.sig.returnType = (some .long)) {F : Nat} {k12 : Nat → Int64 → Int32 → Int64 → Int64 → Int64 → Int32 → gM → Option (Int64 × gM)} (hk12 : ∀ (z0 : Nat) (z1 : Int64) (z5 : Int32) (z6 : Int64) (z8 : Int64) (z10 : Int64) (z12 : Int32) (m : gM), k12 z0 z1 z5 z6 z8 z10 z12 m = some (rr, rm) → gV X w 0 0 (gR X w (some (.long rr)) rm) 16 12 [(0, .ref z0), (1, .long z1), (5, .int z5), (6, .long z6), (8, .long z8), (10, .long z10), (12, .int z12)] [] m) {x0 : Nat} {x1 : Int64} {x5 : Int32} {x6 : Int64} {x8 : Int64} {x10 : Int64} {x12 : Int32} {m : gM} (h : b_X4_local_12 w.2.2.2.2.1 F k12 x0 x1 x5 x6 x8 x10 x12 m = some (rr, rm)) : gV X w 0 0 (gR X w (some (.long rr)) rm) 16 12 [(0, .ref x0), (1, .long x1), (5, .int x5), (6, .long x6), (8, .long x8), (10, .long x10), (12, .int x12)] [] m := by
  unfold b_X4_local_12 at h
  refine v_iload (pc := 12) C 8 6 rfl rfl ?_
  refine v_bipush (pc := 14) C 9 64 rfl (by decide) ?_
  refine v_icmp_ge (pc := 16) C 10 110 rfl (by decide) (fun c1 => ?_) (fun c1 => ?_)
  · replace h := g_ifT c1 h
    refine v_lload (pc := 110) C 61 5 rfl rfl ?_
    obtain ⟨rfl, rfl⟩ := g_so h
    exact v_lret (pc := 112) C 62 rfl hr
  · replace h := g_ifF c1 h
    refine v_lload_n (pc := 19) C 11 1 rfl rfl rfl ?_
    refine v_lconst (pc := 20) C 12 0 rfl (by decide) ?_
    refine v_lcmp (pc := 21) C 13 rfl ?_
    refine v_lif_eq (pc := 22) C 14 110 rfl (by decide) (fun c2 => ?_) (fun c2 => ?_)
    · replace h := g_ifT c2 h
      refine v_lload (pc := 110) C 61 5 rfl rfl ?_
      obtain ⟨rfl, rfl⟩ := g_so h
      exact v_lret (pc := 112) C 62 rfl hr
    · replace h := g_ifF c2 h
      refine v_lload (pc := 25) C 15 4 rfl rfl ?_
      refine v_lconst (pc := 27) C 16 0 rfl (by decide) ?_
      refine v_lcmp (pc := 28) C 17 rfl ?_
      refine v_lif_eq (pc := 29) C 18 110 rfl (by decide) (fun c3 => ?_) (fun c3 => ?_)
      · replace h := g_ifT c3 h
        refine v_lload (pc := 110) C 61 5 rfl rfl ?_
        obtain ⟨rfl, rfl⟩ := g_so h
        exact v_lret (pc := 112) C 62 rfl hr
      · replace h := g_ifF c3 h
        refine v_lload (pc := 32) C 19 4 rfl rfl ?_
        obtain ⟨⟨r5, m4⟩, qm4, h⟩ := g_bd h
        replace h := g_nm (y := m4) (g_nm (y := r5) h rfl) rfl
        refine v_callS (pc := 34) C 20 rfl mf_X7_lowest sm_X7_lowest lm_ScopeGraph_Resolver_100 (c_X7_lowest C.2.2.2.2.2.2.2.2.2.2.2 qm4) (by decide) rfl (Nat.le_of_ble_eq_true rfl) ⟨Nat.zero_le _, Nat.zero_le _⟩ rfl ?_
        change gV X w 0 0 (gR X w (some (.long rr)) rm) 16 37 [(0, .ref x0), (1, .long x1), (5, .int x5), (6, .long x6), (8, .long x8), (10, .long x10), (12, .int x12)] [.int r5] m4
        refine v_istore (pc := 37) (lv' := [(13, .int r5), (0, .ref x0), (1, .long x1), (5, .int x5), (6, .long x6), (8, .long x8), (10, .long x10), (12, .int x12)]) C 21 rfl (by decide) rfl ?_
        refine v_lload (pc := 39) C 22 4 rfl rfl ?_
        refine v_lconst (pc := 41) C 23 1 rfl (by decide) ?_
        refine v_iload (pc := 42) C 24 0 rfl rfl ?_
        refine v_lshl (pc := 44) C 25 rfl ?_
        refine v_lor (pc := 45) C 26 rfl ?_
        refine v_topJ (fun v7 ev7 => ?_)
        replace h := g_nm h ev7
        refine v_lstore (pc := 46) (lv' := [(6, .long v7), (13, .int r5), (0, .ref x0), (1, .long x1), (5, .int x5), (8, .long x8), (10, .long x10), (12, .int x12)]) C 27 rfl (by decide) rfl ?_
        refine v_lload_n (pc := 48) C 28 3 rfl rfl rfl ?_
        refine v_aload_n (pc := 49) C 29 2 rfl rfl rfl ?_
        obtain ⟨o8, h⟩ := g_okk h
        obtain ⟨t9, qt9, h⟩ := g_bd h
        refine v_getR (pc := 50) C 30 rfl lf_ScopeGraph_Resolver_15.get (g_oB o8) rfl qt9 ?_
        obtain ⟨o10, h⟩ := g_okk h
        obtain ⟨t11, qt11, h⟩ := g_bd h
        refine v_getR (pc := 53) C 31 rfl lf_ScopeGraph_Resolver_68 (g_oB o10) rfl qt11 ?_
        refine v_iload (pc := 56) C 32 1 rfl rfl ?_
        obtain ⟨b12, h⟩ := g_okk h
        refine v_lald' (pc := 58) C 33 rfl b12 ?_
        refine v_land (pc := 59) C 34 rfl ?_
        refine v_topJ (fun v13 ev13 => ?_)
        replace h := g_nm h ev13
        refine v_lstore (pc := 60) (lv' := [(14, .long v13), (6, .long v7), (13, .int r5), (0, .ref x0), (1, .long x1), (5, .int x5), (8, .long x8), (10, .long x10), (12, .int x12)]) C 35 rfl (by decide) rfl ?_
        refine v_lload (pc := 62) C 36 7 rfl rfl ?_
        refine v_lload (pc := 64) C 37 0 rfl rfl ?_
        refine v_lor (pc := 66) C 38 rfl ?_
        refine v_topJ (fun v14 ev14 => ?_)
        replace h := g_nm h ev14
        refine v_lstore (pc := 67) (lv' := [(10, .long v14), (14, .long v13), (6, .long v7), (13, .int r5), (0, .ref x0), (1, .long x1), (5, .int x5), (8, .long x8), (12, .int x12)]) C 39 rfl (by decide) rfl ?_
        refine v_lload (pc := 69) C 40 7 rfl rfl ?_
        refine v_lload (pc := 71) C 41 1 rfl rfl ?_
        refine v_lconst (pc := 73) C 42 0 rfl (by decide) ?_
        refine v_lcmp (pc := 74) C 43 rfl ?_
        refine v_lif_eq (pc := 75) C 44 82 rfl (by decide) (fun c15 => ?_) (fun c15 => ?_)
        · replace h := g_ifT c15 h
          refine v_aload_n (pc := 82) C 47 4 rfl rfl rfl ?_
          refine v_iload (pc := 83) C 48 3 rfl rfl ?_
          refine v_iload (pc := 85) C 49 6 rfl rfl ?_
          obtain ⟨⟨r17, m16⟩, qm16, h⟩ := g_bd h
          replace h := g_nm (y := m16) (g_nm (y := r17) h rfl) rfl
          refine v_callV (pc := 87) C 50 rfl mf_X4_importedBy clX4 rfl im_X4_importedBy lm_ScopeGraph_Resolver_104 (c_X4_importedBy C.2.2.2.2.2.2.2.2.2.2.2 qm16) (by decide) rfl (g_oB o8) (Nat.le_of_ble_eq_true rfl) ⟨Nat.zero_le _, Nat.zero_le _⟩ rfl ?_
          change gV X w 0 0 (gR X w (some (.long rr)) rm) 16 90 [(10, .long v14), (14, .long v13), (6, .long v7), (13, .int r5), (0, .ref x0), (1, .long x1), (5, .int x5), (8, .long x8), (12, .int x12)] [.long r17, .long x8] m16
          refine v_sub [(0, .ref x0), (1, .long x1), (5, .int x5), (6, .long v7), (10, .long v14), (12, .int x12)] [4, 5, 6, 2, 0, 8] rfl ?_
          exact tb_X4_local_90 (F := F) C hr hk12 h
        · replace h := g_ifF c15 h
          refine v_lconst (pc := 78) C 45 0 rfl (by decide) ?_
          refine v_goto (pc := 79) C 46 90 rfl (by decide) ?_
          refine v_sub [(0, .ref x0), (1, .long x1), (5, .int x5), (6, .long v7), (10, .long v14), (12, .int x12)] [4, 5, 6, 2, 0, 8] rfl ?_
          exact tb_X4_local_90 (F := F) C hr hk12 h
def l_X4_local_12 (sh : List gS) (F : Nat) : Nat → Nat → Int64 → Int32 → Int64 → Int64 → Int64 → Int32 → gM → Option (Int64 × gM)
  | 0 => fun _ _ _ _ _ _ _ _ => none
  | n + 1 => fun x0 x1 x5 x6 x8 x10 x12 m => b_X4_local_12 sh F (l_X4_local_12 sh F n) x0 x1 x5 x6 x8 x10 x12 m
theorem tl_X4_local_12 {X : gX} {w : gW} {rr : Int64} {rm : gM} (C : gC X w K_X4_local 16 RX4 2) (hr : X.2.2.2.2.2.2.2.2.1.sig.returnType = (some .long)) {F : Nat} : ∀ (n : Nat) (x0 : Nat) (x1 : Int64) (x5 : Int32) (x6 : Int64) (x8 : Int64) (x10 : Int64) (x12 : Int32) (m : gM), l_X4_local_12 w.2.2.2.2.1 F n x0 x1 x5 x6 x8 x10 x12 m = some (rr, rm) → gV X w 0 0 (gR X w (some (.long rr)) rm) 16 12 [(0, .ref x0), (1, .long x1), (5, .int x5), (6, .long x6), (8, .long x8), (10, .long x10), (12, .int x12)] [] m := by
  intro n
  induction n with
  | zero => intro x0 x1 x5 x6 x8 x10 x12 m h; cases h
  | succ n ih => intro x0 x1 x5 x6 x8 x10 x12 m h; exact tb_X4_local_12 (F := F) C hr ih h
def f_X4_local (sh : List gS) (F : Nat) (x0 : Nat) (x1 : Int64) (x3 : Int64) (x5 : Int32) (m : gM) : Option (Int64 × gM) :=
  l_X4_local_12 sh F F x0 x1 x5 0 x3 0 0 m
set_option maxRecDepth 100000 in
set_option maxHeartbeats 4000000 in
theorem tf_X4_local {X : gX} {w : gW} {rr : Int64} {rm : gM} (C : gC X w K_X4_local 16 RX4 2) (hr : X.2.2.2.2.2.2.2.2.1.sig.returnType = (some .long)) {F : Nat} {x0 : Nat} {x1 : Int64} {x3 : Int64} {x5 : Int32} {m : gM} (h : f_X4_local w.2.2.2.2.1 F x0 x1 x3 x5 m = some (rr, rm)) : gV X w 0 0 (gR X w (some (.long rr)) rm) 16 0 [(0, .ref x0), (1, .long x1), (3, .long x3), (5, .int x5)] [] m := by
  unfold f_X4_local at h
  refine v_lconst (pc := 0) C 0 0 rfl (by decide) ?_
  refine v_lstore (pc := 1) (lv' := [(6, .long 0), (0, .ref x0), (1, .long x1), (3, .long x3), (5, .int x5)]) C 1 rfl (by decide) rfl ?_
  refine v_lload_n (pc := 3) C 2 3 rfl rfl rfl ?_
  refine v_lstore (pc := 4) (lv' := [(8, .long x3), (6, .long 0), (0, .ref x0), (1, .long x1), (3, .long x3), (5, .int x5)]) C 3 rfl (by decide) rfl ?_
  refine v_lconst (pc := 6) C 4 0 rfl (by decide) ?_
  refine v_lstore (pc := 7) (lv' := [(10, .long 0), (8, .long x3), (6, .long 0), (0, .ref x0), (1, .long x1), (3, .long x3), (5, .int x5)]) C 5 rfl (by decide) rfl ?_
  refine v_iconst (pc := 9) C 6 0 rfl (by decide) ?_
  refine v_istore (pc := 10) (lv' := [(12, .int 0), (10, .long 0), (8, .long x3), (6, .long 0), (0, .ref x0), (1, .long x1), (3, .long x3), (5, .int x5)]) C 7 rfl (by decide) rfl ?_
  refine v_sub [(0, .ref x0), (1, .long x1), (5, .int x5), (6, .long 0), (8, .long x3), (10, .long 0), (12, .int 0)] [4, 5, 7, 3, 2, 1, 0] rfl ?_
  exact tl_X4_local_12 (F := F) C hr _ _ _ _ _ _ _ _ _ h
theorem c_X4_local {l : Launch} {w : gW} {rr : Int64} {rm : gM} (hJ : gJok w) {F : Nat} {x0 : Nat} {x1 : Int64} {x3 : Int64} {x5 : Int32} {m : gM} (h : f_X4_local w.2.2.2.2.1 F x0 x1 x3 x5 m = some (rr, rm)) : gMet l 2 yX4_local cX4_local 16 (some .long) w [.ref x0, .long x1, .long x3, .int x5] m (some (.long rr)) rm :=
  gMet.of hJ mf_X4_local dk_X4_local (Nat.le_of_ble_eq_true rfl) (fun X _ C hr => tf_X4_local (F := F) C hr h)
def b_X4_means_71 (sh : List gS) (F : Nat) (k71 : Nat → Int32 → Int64 → Int32 → Int32 → gM → Option (Int64 × gM)) (x0 : Nat) (x4 : Int32) (x5 : Int64) (x7 : Int32) (x8 : Int32) (m : gM) : Option (Int64 × gM) :=
  if (64 : Int32) ≤ x8 then (some (0, m)) else (if x7 < 0 then (some (0, m)) else (g_if (oB sh x0 4) ((f_X4_local sh F x0 x5 ((1 : Int64) <<< (x7.toInt64 &&& 63)) x4 m).bind (fun q6 => nm q6.1 (fun r5 => nm q6.2 (fun m4 => if r5 = (0 : Int64) then ((m4.2.2 x0 1).bind (fun t8 => g_if (oB sh t8 2) ((m4.2.2 t8 2).bind (fun t10 => g_if (aB sh t10 .int x7) (nm (m4.1 t10 (x7).toNatClampNeg) (fun v12 => nm (x8 + Int32.ofInt 1) (fun v13 => k71 x0 x4 x5 v12 v13 m4))))))) else (nm (gsI m4 x0 3 x8) (fun m14 => nm (gsI m14 x0 4 x7) (fun m15 => some (r5, m15))))))))))
set_option maxRecDepth 100000 in
set_option maxHeartbeats 4000000 in
theorem tb_X4_means_71 {X : gX} {w : gW} {rr : Int64} {rm : gM} (C : gC X w K_X4_means 11 RX4 3) (hr : X.2.2.2.2.2.2.2.2.1.sig.returnType = (some .long)) {F : Nat} {k71 : Nat → Int32 → Int64 → Int32 → Int32 → gM → Option (Int64 × gM)} (hk71 : ∀ (z0 : Nat) (z4 : Int32) (z5 : Int64) (z7 : Int32) (z8 : Int32) (m : gM), k71 z0 z4 z5 z7 z8 m = some (rr, rm) → gV X w 0 0 (gR X w (some (.long rr)) rm) 11 71 [(0, .ref z0), (4, .int z4), (5, .long z5), (7, .int z7), (8, .int z8)] [] m) {x0 : Nat} {x4 : Int32} {x5 : Int64} {x7 : Int32} {x8 : Int32} {m : gM} (h : b_X4_means_71 w.2.2.2.2.1 F k71 x0 x4 x5 x7 x8 m = some (rr, rm)) : gV X w 0 0 (gR X w (some (.long rr)) rm) 11 71 [(0, .ref x0), (4, .int x4), (5, .long x5), (7, .int x7), (8, .int x8)] [] m := by
  unfold b_X4_means_71 at h
  refine v_iload (pc := 71) C 37 4 rfl rfl ?_
  refine v_bipush (pc := 73) C 38 64 rfl (by decide) ?_
  refine v_icmp_ge (pc := 75) C 39 137 rfl (by decide) (fun c1 => ?_) (fun c1 => ?_)
  · replace h := g_ifT c1 h
    refine v_lconst (pc := 137) C 70 0 rfl (by decide) ?_
    obtain ⟨rfl, rfl⟩ := g_so h
    exact v_lret (pc := 138) C 71 rfl hr
  · replace h := g_ifF c1 h
    refine v_iload (pc := 78) C 40 3 rfl rfl ?_
    refine v_if_lt (pc := 80) C 41 137 rfl (by decide) (fun c2 => ?_) (fun c2 => ?_)
    · replace h := g_ifT c2 h
      refine v_lconst (pc := 137) C 70 0 rfl (by decide) ?_
      obtain ⟨rfl, rfl⟩ := g_so h
      exact v_lret (pc := 138) C 71 rfl hr
    · replace h := g_ifF c2 h
      refine v_aload_n (pc := 83) C 42 0 rfl rfl rfl ?_
      refine v_lload (pc := 84) C 43 2 rfl rfl ?_
      refine v_lconst (pc := 86) C 44 1 rfl (by decide) ?_
      refine v_iload (pc := 87) C 45 3 rfl rfl ?_
      refine v_lshl (pc := 89) C 46 rfl ?_
      refine v_iload (pc := 90) C 47 1 rfl rfl ?_
      obtain ⟨o3, h⟩ := g_okk h
      obtain ⟨⟨r5, m4⟩, qm4, h⟩ := g_bd h
      replace h := g_nm (y := m4) (g_nm (y := r5) h rfl) rfl
      refine v_callV (pc := 92) C 48 rfl mf_X4_local clX4 rfl im_X4_local lm_ScopeGraph_Resolver_93 (c_X4_local C.2.2.2.2.2.2.2.2.2.2.2 qm4) (by decide) rfl (g_oB o3) (Nat.le_of_ble_eq_true rfl) ⟨Nat.zero_le _, Nat.zero_le _⟩ rfl ?_
      change gV X w 0 0 (gR X w (some (.long rr)) rm) 11 95 [(0, .ref x0), (4, .int x4), (5, .long x5), (7, .int x7), (8, .int x8)] [.long r5] m4
      refine v_lstore (pc := 95) (lv' := [(9, .long r5), (0, .ref x0), (4, .int x4), (5, .long x5), (7, .int x7), (8, .int x8)]) C 49 rfl (by decide) rfl ?_
      refine v_lload (pc := 97) C 50 0 rfl rfl ?_
      refine v_lconst (pc := 99) C 51 0 rfl (by decide) ?_
      refine v_lcmp (pc := 100) C 52 rfl ?_
      refine v_lif_eq (pc := 101) C 53 119 rfl (by decide) (fun c7 => ?_) (fun c7 => ?_)
      · replace h := g_ifT c7 h
        refine v_aload_n (pc := 119) C 62 1 rfl rfl rfl ?_
        obtain ⟨t8, qt8, h⟩ := g_bd h
        refine v_getR (pc := 120) C 63 rfl lf_ScopeGraph_Resolver_15.get (g_oB o3) rfl qt8 ?_
        obtain ⟨o9, h⟩ := g_okk h
        obtain ⟨t10, qt10, h⟩ := g_bd h
        refine v_getR (pc := 123) C 64 rfl lf_ScopeGraph_Resolver_97 (g_oB o9) rfl qt10 ?_
        refine v_iload (pc := 126) C 65 4 rfl rfl ?_
        obtain ⟨b11, h⟩ := g_okk h
        refine v_iald' (pc := 128) C 66 rfl b11 ?_
        refine v_topI (fun v12 ev12 => ?_)
        replace h := g_nm h ev12
        refine v_istore (pc := 129) (lv' := [(7, .int v12), (9, .long r5), (0, .ref x0), (4, .int x4), (5, .long x5), (8, .int x8)]) C 67 rfl (by decide) rfl ?_
        refine v_iincN (pc := 131) C 68 5 (fun v13 => [(8, .int v13), (7, .int v12), (9, .long r5), (0, .ref x0), (4, .int x4), (5, .long x5)]) rfl rfl (by decide) (fun _ => rfl) (fun v13 ev13 => ?_)
        replace h := g_nm h ev13
        refine v_goto (pc := 134) C 69 71 rfl (by decide) ?_
        refine v_sub [(0, .ref x0), (4, .int x4), (5, .long x5), (7, .int v12), (8, .int v13)] [3, 4, 5, 1, 0] rfl ?_
        exact hk71 _ _ _ _ _ _ h
      · replace h := g_ifF c7 h
        refine v_aload_n (pc := 104) C 54 1 rfl rfl rfl ?_
        refine v_iload (pc := 105) C 55 5 rfl rfl ?_
        refine v_putI (pc := 107) C 56 rfl lf_ScopeGraph_Resolver_62 (g_oB o3) rfl ?_
        refine v_topM (fun m14 em14 => ?_)
        replace h := g_nm h em14
        refine v_aload_n (pc := 110) C 57 1 rfl rfl rfl ?_
        refine v_iload (pc := 111) C 58 4 rfl rfl ?_
        refine v_putI (pc := 113) C 59 rfl lf_ScopeGraph_Resolver_71 (g_oB o3) rfl ?_
        refine v_topM (fun m15 em15 => ?_)
        replace h := g_nm h em15
        refine v_lload (pc := 116) C 60 0 rfl rfl ?_
        obtain ⟨rfl, rfl⟩ := g_so h
        exact v_lret (pc := 118) C 61 rfl hr
def l_X4_means_71 (sh : List gS) (F : Nat) : Nat → Nat → Int32 → Int64 → Int32 → Int32 → gM → Option (Int64 × gM)
  | 0 => fun _ _ _ _ _ _ => none
  | n + 1 => fun x0 x4 x5 x7 x8 m => b_X4_means_71 sh F (l_X4_means_71 sh F n) x0 x4 x5 x7 x8 m
theorem tl_X4_means_71 {X : gX} {w : gW} {rr : Int64} {rm : gM} (C : gC X w K_X4_means 11 RX4 3) (hr : X.2.2.2.2.2.2.2.2.1.sig.returnType = (some .long)) {F : Nat} : ∀ (n : Nat) (x0 : Nat) (x4 : Int32) (x5 : Int64) (x7 : Int32) (x8 : Int32) (m : gM), l_X4_means_71 w.2.2.2.2.1 F n x0 x4 x5 x7 x8 m = some (rr, rm) → gV X w 0 0 (gR X w (some (.long rr)) rm) 11 71 [(0, .ref x0), (4, .int x4), (5, .long x5), (7, .int x7), (8, .int x8)] [] m := by
  intro n
  induction n with
  | zero => intro x0 x4 x5 x7 x8 m h; cases h
  | succ n ih => intro x0 x4 x5 x7 x8 m h; exact tb_X4_means_71 (F := F) C hr ih h
def f_X4_means (sh : List gS) (F : Nat) (x0 : Nat) (x1 : Int32) (x2 : Int64) (x4 : Int32) (m : gM) : Option (Int64 × gM) :=
  g_if (oB sh x0 4) ((m.2.2 x0 2).bind (fun t2 => g_if (oB sh t2 1) ((m.2.2 t2 0).bind (fun t4 => g_if (aB sh t4 .long x1) (nm (m.2.1 t4 (x1).toNatClampNeg) (fun v6 => (m.2.2 x0 1).bind (fun t7 => g_if (oB sh t7 2) ((m.2.2 t7 1).bind (fun t9 => g_if (oB sh t9 0) ((m.2.2 t9 0).bind (fun t11 => g_if (aB sh t11 .int x1) (nm (m.1 t11 (x1).toNatClampNeg) (fun v13 => nm (gsI m x0 3 0) (fun m14 => nm (gsI m14 x0 4 v13) (fun m15 => (m15.2.2 x0 1).bind (fun t16 => g_if (oB sh t16 2) ((m15.2.2 t16 3).bind (fun t18 => g_if (aB sh t18 .int v13) (if (m15.1 t18 (v13).toNatClampNeg) = (6 : Int32) then ((m15.2.2 x0 1).bind (fun t21 => g_if (oB sh t21 2) ((f_X2_ownedBy sh F t21 x2 m15).bind (fun q25 => nm q25.1 (fun r24 => nm q25.2 (fun m23 => (f_X4_local sh F x0 v6 r24 x4 m23).bind (fun q28 => nm q28.1 (fun r27 => nm q28.2 (fun m26 => some (r27, m26)))))))))) else (l_X4_means_71 sh F F x0 x4 v6 v13 0 m15))))))))))))))))))))
set_option maxRecDepth 100000 in
set_option maxHeartbeats 4000000 in
theorem tf_X4_means {X : gX} {w : gW} {rr : Int64} {rm : gM} (C : gC X w K_X4_means 11 RX4 3) (hr : X.2.2.2.2.2.2.2.2.1.sig.returnType = (some .long)) {F : Nat} {x0 : Nat} {x1 : Int32} {x2 : Int64} {x4 : Int32} {m : gM} (h : f_X4_means w.2.2.2.2.1 F x0 x1 x2 x4 m = some (rr, rm)) : gV X w 0 0 (gR X w (some (.long rr)) rm) 11 0 [(0, .ref x0), (1, .int x1), (2, .long x2), (4, .int x4)] [] m := by
  unfold f_X4_means at h
  refine v_aload_n (pc := 0) C 0 0 rfl rfl rfl ?_
  obtain ⟨o1, h⟩ := g_okk h
  obtain ⟨t2, qt2, h⟩ := g_bd h
  refine v_getR (pc := 1) C 1 rfl lf_ScopeGraph_Resolver_19.get (g_oB o1) rfl qt2 ?_
  obtain ⟨o3, h⟩ := g_okk h
  obtain ⟨t4, qt4, h⟩ := g_bd h
  refine v_getR (pc := 4) C 2 rfl lf_ScopeGraph_Resolver_65 (g_oB o3) rfl qt4 ?_
  refine v_iload_n (pc := 7) C 3 1 rfl rfl rfl ?_
  obtain ⟨b5, h⟩ := g_okk h
  refine v_lald' (pc := 8) C 4 rfl b5 ?_
  refine v_topJ (fun v6 ev6 => ?_)
  replace h := g_nm h ev6
  refine v_lstore (pc := 9) (lv' := [(5, .long v6), (0, .ref x0), (1, .int x1), (2, .long x2), (4, .int x4)]) C 5 rfl (by decide) rfl ?_
  refine v_aload_n (pc := 11) C 6 1 rfl rfl rfl ?_
  obtain ⟨t7, qt7, h⟩ := g_bd h
  refine v_getR (pc := 12) C 7 rfl lf_ScopeGraph_Resolver_15.get (g_oB o1) rfl qt7 ?_
  obtain ⟨o8, h⟩ := g_okk h
  obtain ⟨t9, qt9, h⟩ := g_bd h
  refine v_getR (pc := 15) C 8 rfl lf_ScopeGraph_Resolver_33 (g_oB o8) rfl qt9 ?_
  obtain ⟨o10, h⟩ := g_okk h
  obtain ⟨t11, qt11, h⟩ := g_bd h
  refine v_getR (pc := 18) C 9 rfl lf_ScopeGraph_Resolver_87 (g_oB o10) rfl qt11 ?_
  refine v_iload_n (pc := 21) C 10 2 rfl rfl rfl ?_
  obtain ⟨b12, h⟩ := g_okk h
  refine v_iald' (pc := 22) C 11 rfl b12 ?_
  refine v_topI (fun v13 ev13 => ?_)
  replace h := g_nm h ev13
  refine v_istore (pc := 23) (lv' := [(7, .int v13), (5, .long v6), (0, .ref x0), (1, .int x1), (2, .long x2), (4, .int x4)]) C 12 rfl (by decide) rfl ?_
  refine v_aload_n (pc := 25) C 13 2 rfl rfl rfl ?_
  refine v_iconst (pc := 26) C 14 0 rfl (by decide) ?_
  refine v_putI (pc := 27) C 15 rfl lf_ScopeGraph_Resolver_62 (g_oB o1) rfl ?_
  refine v_topM (fun m14 em14 => ?_)
  replace h := g_nm h em14
  refine v_aload_n (pc := 30) C 16 2 rfl rfl rfl ?_
  refine v_iload (pc := 31) C 17 0 rfl rfl ?_
  refine v_putI (pc := 33) C 18 rfl lf_ScopeGraph_Resolver_71 (g_oB o1) rfl ?_
  refine v_topM (fun m15 em15 => ?_)
  replace h := g_nm h em15
  refine v_aload_n (pc := 36) C 19 2 rfl rfl rfl ?_
  obtain ⟨t16, qt16, h⟩ := g_bd h
  refine v_getR (pc := 37) C 20 rfl lf_ScopeGraph_Resolver_15.get (g_oB o1) rfl qt16 ?_
  obtain ⟨o17, h⟩ := g_okk h
  obtain ⟨t18, qt18, h⟩ := g_bd h
  refine v_getR (pc := 40) C 21 rfl lf_ScopeGraph_Resolver_90 (g_oB o17) rfl qt18 ?_
  refine v_iload (pc := 43) C 22 0 rfl rfl ?_
  obtain ⟨b19, h⟩ := g_okk h
  refine v_iald' (pc := 45) C 23 rfl b19 ?_
  refine v_bipush (pc := 46) C 24 6 rfl (by decide) ?_
  refine v_icmp_ne (pc := 48) C 25 68 rfl (by decide) (fun c20 => ?_) (fun c20 => ?_)
  · replace h := g_ifF c20 h
    refine v_iconst (pc := 68) C 35 0 rfl (by decide) ?_
    refine v_istore (pc := 69) (lv' := [(8, .int 0), (7, .int v13), (5, .long v6), (0, .ref x0), (1, .int x1), (2, .long x2), (4, .int x4)]) C 36 rfl (by decide) rfl ?_
    refine v_sub [(0, .ref x0), (4, .int x4), (5, .long v6), (7, .int v13), (8, .int 0)] [3, 6, 2, 1, 0] rfl ?_
    exact tl_X4_means_71 (F := F) C hr _ _ _ _ _ _ _ h
  · replace h := g_ifT c20 h
    refine v_aload_n (pc := 51) C 26 2 rfl rfl rfl ?_
    refine v_lload (pc := 52) C 27 1 rfl rfl ?_
    refine v_aload_n (pc := 54) C 28 2 rfl rfl rfl ?_
    obtain ⟨t21, qt21, h⟩ := g_bd h
    refine v_getR (pc := 55) C 29 rfl lf_ScopeGraph_Resolver_15.get (g_oB o1) rfl qt21 ?_
    refine v_lload_n (pc := 58) C 30 4 rfl rfl rfl ?_
    obtain ⟨o22, h⟩ := g_okk h
    obtain ⟨⟨r24, m23⟩, qm23, h⟩ := g_bd h
    replace h := g_nm (y := m23) (g_nm (y := r24) h rfl) rfl
    refine v_callV (pc := 59) C 31 rfl mf_X2_ownedBy clX2 rfl im_X2_ownedBy lm_ScopeGraph_Resolver_83 (c_X2_ownedBy C.2.2.2.2.2.2.2.2.2.2.2 qm23) (by decide) rfl (g_oB o22) (Nat.le_of_ble_eq_true rfl) ⟨Nat.zero_le _, Nat.zero_le _⟩ rfl ?_
    change gV X w 0 0 (gR X w (some (.long rr)) rm) 11 62 [(7, .int v13), (5, .long v6), (0, .ref x0), (1, .int x1), (2, .long x2), (4, .int x4)] [.long r24, .long v6, .ref x0] m23
    refine v_iload (pc := 62) C 32 5 rfl rfl ?_
    obtain ⟨⟨r27, m26⟩, qm26, h⟩ := g_bd h
    replace h := g_nm (y := m26) (g_nm (y := r27) h rfl) rfl
    refine v_callV (pc := 64) C 33 rfl mf_X4_local clX4 rfl im_X4_local lm_ScopeGraph_Resolver_93 (c_X4_local C.2.2.2.2.2.2.2.2.2.2.2 qm26) (by decide) rfl (g_oB o1) (Nat.le_of_ble_eq_true rfl) ⟨Nat.zero_le _, Nat.zero_le _⟩ rfl ?_
    change gV X w 0 0 (gR X w (some (.long rr)) rm) 11 67 [(7, .int v13), (5, .long v6), (0, .ref x0), (1, .int x1), (2, .long x2), (4, .int x4)] [.long r27] m26
    obtain ⟨rfl, rfl⟩ := g_so h
    exact v_lret (pc := 67) C 34 rfl hr
theorem c_X4_means {l : Launch} {w : gW} {rr : Int64} {rm : gM} (hJ : gJok w) {F : Nat} {x0 : Nat} {x1 : Int32} {x2 : Int64} {x4 : Int32} {m : gM} (h : f_X4_means w.2.2.2.2.1 F x0 x1 x2 x4 m = some (rr, rm)) : gMet l 3 yX4_means cX4_means 11 (some .long) w [.ref x0, .int x1, .long x2, .int x4] m (some (.long rr)) rm :=
  gMet.of hJ mf_X4_means dk_X4_means (Nat.le_of_ble_eq_true rfl) (fun X _ C hr => tf_X4_means (F := F) C hr h)
def b_X4_followStatements_86 (sh : List gS) (F : Nat) (k2 : Nat → Int32 → Int32 → gM → Option (gM)) (x0 : Nat) (x1 : Int32) (x2 : Int32) (m : gM) : Option (gM) :=
  nm (x2 + Int32.ofInt 1) (fun v1 => k2 x0 x1 v1 m)
set_option maxRecDepth 100000 in
set_option maxHeartbeats 4000000 in
theorem tb_X4_followStatements_86 {X : gX} {w : gW} {rm : gM} (C : gC X w K_X4_followStatements 6 RX4 4) (hr : X.2.2.2.2.2.2.2.2.1.sig.returnType = none) {F : Nat} {k2 : Nat → Int32 → Int32 → gM → Option (gM)} (hk2 : ∀ (z0 : Nat) (z1 : Int32) (z2 : Int32) (m : gM), k2 z0 z1 z2 m = some rm → gV X w 0 0 (gR X w none rm) 6 2 [(0, .ref z0), (1, .int z1), (2, .int z2)] [] m) {x0 : Nat} {x1 : Int32} {x2 : Int32} {m : gM} (h : b_X4_followStatements_86 w.2.2.2.2.1 F k2 x0 x1 x2 m = some rm) : gV X w 0 0 (gR X w none rm) 6 86 [(0, .ref x0), (1, .int x1), (2, .int x2)] [] m := by
  unfold b_X4_followStatements_86 at h
  refine v_iincN (pc := 86) C 52 2 (fun v1 => [(2, .int v1), (0, .ref x0), (1, .int x1)]) rfl rfl (by decide) (fun _ => rfl) (fun v1 ev1 => ?_)
  replace h := g_nm h ev1
  refine v_goto (pc := 89) C 53 2 rfl (by decide) ?_
  refine v_sub [(0, .ref x0), (1, .int x1), (2, .int v1)] [1, 2, 0] rfl ?_
  exact hk2 _ _ _ _ h
def b_X4_followStatements_34 (sh : List gS) (F : Nat) (k2 : Nat → Int32 → Int32 → gM → Option (gM)) (k34 : Nat → Int32 → Int32 → Int64 → Int32 → gM → Option (gM)) (x0 : Nat) (x1 : Int32) (x2 : Int32) (x3 : Int64) (x5 : Int32) (m : gM) : Option (gM) :=
  g_if (oB sh x0 4) ((m.2.2 x0 1).bind (fun t2 => g_if (oB sh t2 2) ((m.2.2 t2 10).bind (fun t4 => g_if (aB sh t4 .int x2) (if (m.1 t4 (x2).toNatClampNeg) < x5 then ((m.2.2 x0 0).bind (fun t7 => (m.2.2 x0 1).bind (fun t8 => g_if (oB sh t8 2) ((f_X2_ownedBy sh F t8 x3 m).bind (fun q12 => nm q12.1 (fun r11 => nm q12.2 (fun m10 => g_if (aB sh t7 .long ((x1 * (6 : Int32)) + x2)) (nm (gsL m10 t7 ((x1 * (6 : Int32)) + x2).toNatClampNeg r11) (fun m14 => b_X4_followStatements_86 sh F k2 x0 x1 x2 m14))))))))) else ((f_X4_means sh F x0 x5 x3 (x1 ||| ((1 : Int32) <<< (x2 &&& 31))) m).bind (fun q17 => nm q17.1 (fun r16 => nm q17.2 (fun m15 => nm (x5 + Int32.ofInt 1) (fun v18 => k34 x0 x1 x2 r16 v18 m15))))))))))
set_option maxRecDepth 100000 in
set_option maxHeartbeats 4000000 in
theorem tb_X4_followStatements_34 {X : gX} {w : gW} {rm : gM} (C : gC X w K_X4_followStatements 6 RX4 4) (hr : X.2.2.2.2.2.2.2.2.1.sig.returnType = none) {F : Nat} {k2 : Nat → Int32 → Int32 → gM → Option (gM)} {k34 : Nat → Int32 → Int32 → Int64 → Int32 → gM → Option (gM)} (hk2 : ∀ (z0 : Nat) (z1 : Int32) (z2 : Int32) (m : gM), k2 z0 z1 z2 m = some rm → gV X w 0 0 (gR X w none rm) 6 2 [(0, .ref z0), (1, .int z1), (2, .int z2)] [] m) (hk34 : ∀ (z0 : Nat) (z1 : Int32) (z2 : Int32) (z3 : Int64) (z5 : Int32) (m : gM), k34 z0 z1 z2 z3 z5 m = some rm → gV X w 0 0 (gR X w none rm) 6 34 [(0, .ref z0), (1, .int z1), (2, .int z2), (3, .long z3), (5, .int z5)] [] m) {x0 : Nat} {x1 : Int32} {x2 : Int32} {x3 : Int64} {x5 : Int32} {m : gM} (h : b_X4_followStatements_34 w.2.2.2.2.1 F k2 k34 x0 x1 x2 x3 x5 m = some rm) : gV X w 0 0 (gR X w none rm) 6 34 [(0, .ref x0), (1, .int x1), (2, .int x2), (3, .long x3), (5, .int x5)] [] m := by
  unfold b_X4_followStatements_34 at h
  refine v_iload (pc := 34) C 21 4 rfl rfl ?_
  refine v_aload_n (pc := 36) C 22 0 rfl rfl rfl ?_
  obtain ⟨o1, h⟩ := g_okk h
  obtain ⟨t2, qt2, h⟩ := g_bd h
  refine v_getR (pc := 37) C 23 rfl lf_ScopeGraph_Resolver_15.get (g_oB o1) rfl qt2 ?_
  obtain ⟨o3, h⟩ := g_okk h
  obtain ⟨t4, qt4, h⟩ := g_bd h
  refine v_getR (pc := 40) C 24 rfl lf_ScopeGraph_Resolver_80 (g_oB o3) rfl qt4 ?_
  refine v_iload_n (pc := 43) C 25 2 rfl rfl rfl ?_
  obtain ⟨b5, h⟩ := g_okk h
  refine v_iald' (pc := 44) C 26 rfl b5 ?_
  refine v_icmp_gt (pc := 45) C 27 67 rfl (by decide) (fun c6 => ?_) (fun c6 => ?_)
  · replace h := g_ifT c6 h
    refine v_aload_n (pc := 67) C 40 0 rfl rfl rfl ?_
    obtain ⟨t7, qt7, h⟩ := g_bd h
    refine v_getR (pc := 68) C 41 rfl lf_ScopeGraph_Resolver_11 (g_oB o1) rfl qt7 ?_
    refine v_iload_n (pc := 71) C 42 1 rfl rfl rfl ?_
    refine v_bipush (pc := 72) C 43 6 rfl (by decide) ?_
    refine v_imul (pc := 74) C 44 rfl ?_
    refine v_iload_n (pc := 75) C 45 2 rfl rfl rfl ?_
    refine v_iadd (pc := 76) C 46 rfl ?_
    refine v_aload_n (pc := 77) C 47 0 rfl rfl rfl ?_
    obtain ⟨t8, qt8, h⟩ := g_bd h
    refine v_getR (pc := 78) C 48 rfl lf_ScopeGraph_Resolver_15.get (g_oB o1) rfl qt8 ?_
    refine v_lload_n (pc := 81) C 49 3 rfl rfl rfl ?_
    obtain ⟨o9, h⟩ := g_okk h
    obtain ⟨⟨r11, m10⟩, qm10, h⟩ := g_bd h
    replace h := g_nm (y := m10) (g_nm (y := r11) h rfl) rfl
    refine v_callV (pc := 82) C 50 rfl mf_X2_ownedBy clX2 rfl im_X2_ownedBy lm_ScopeGraph_Resolver_83 (c_X2_ownedBy C.2.2.2.2.2.2.2.2.2.2.2 qm10) (by decide) rfl (g_oB o9) (Nat.le_of_ble_eq_true rfl) ⟨Nat.zero_le _, Nat.zero_le _⟩ rfl ?_
    change gV X w 0 0 (gR X w none rm) 6 85 [(0, .ref x0), (1, .int x1), (2, .int x2), (3, .long x3), (5, .int x5)] [.long r11, .int ((x1 * (6 : Int32)) + x2), .ref t7] m10
    obtain ⟨b13, h⟩ := g_okk h
    refine v_last' (pc := 85) C 51 rfl b13 ?_
    refine v_topM (fun m14 em14 => ?_)
    replace h := g_nm h em14
    refine v_sub [(0, .ref x0), (1, .int x1), (2, .int x2)] [0, 1, 2] rfl ?_
    exact tb_X4_followStatements_86 (F := F) C hr hk2 h
  · replace h := g_ifF c6 h
    refine v_aload_n (pc := 48) C 28 0 rfl rfl rfl ?_
    refine v_iload (pc := 49) C 29 4 rfl rfl ?_
    refine v_lload_n (pc := 51) C 30 3 rfl rfl rfl ?_
    refine v_iload_n (pc := 52) C 31 1 rfl rfl rfl ?_
    refine v_iconst (pc := 53) C 32 1 rfl (by decide) ?_
    refine v_iload_n (pc := 54) C 33 2 rfl rfl rfl ?_
    refine v_ishl (pc := 55) C 34 rfl ?_
    refine v_ior (pc := 56) C 35 rfl ?_
    obtain ⟨⟨r16, m15⟩, qm15, h⟩ := g_bd h
    replace h := g_nm (y := m15) (g_nm (y := r16) h rfl) rfl
    refine v_callV (pc := 57) C 36 rfl mf_X4_means clX4 rfl im_X4_means lm_ScopeGraph_Resolver_46 (c_X4_means C.2.2.2.2.2.2.2.2.2.2.2 qm15) (by decide) rfl (g_oB o1) (Nat.le_of_ble_eq_true rfl) ⟨Nat.zero_le _, Nat.zero_le _⟩ rfl ?_
    change gV X w 0 0 (gR X w none rm) 6 60 [(0, .ref x0), (1, .int x1), (2, .int x2), (3, .long x3), (5, .int x5)] [.long r16] m15
    refine v_lstore_n (pc := 60) (lv' := [(3, .long r16), (0, .ref x0), (1, .int x1), (2, .int x2), (5, .int x5)]) C 37 rfl rfl (by decide) rfl ?_
    refine v_iincN (pc := 61) C 38 4 (fun v18 => [(5, .int v18), (3, .long r16), (0, .ref x0), (1, .int x1), (2, .int x2)]) rfl rfl (by decide) (fun _ => rfl) (fun v18 ev18 => ?_)
    replace h := g_nm h ev18
    refine v_goto (pc := 64) C 39 34 rfl (by decide) ?_
    refine v_sub [(0, .ref x0), (1, .int x1), (2, .int x2), (3, .long r16), (5, .int v18)] [2, 3, 4, 1, 0] rfl ?_
    exact hk34 _ _ _ _ _ _ h
def l_X4_followStatements_34 (sh : List gS) (F : Nat) (k2 : Nat → Int32 → Int32 → gM → Option (gM)) : Nat → Nat → Int32 → Int32 → Int64 → Int32 → gM → Option (gM)
  | 0 => fun _ _ _ _ _ _ => none
  | n + 1 => fun x0 x1 x2 x3 x5 m => b_X4_followStatements_34 sh F k2 (l_X4_followStatements_34 sh F k2 n) x0 x1 x2 x3 x5 m
theorem tl_X4_followStatements_34 {X : gX} {w : gW} {rm : gM} (C : gC X w K_X4_followStatements 6 RX4 4) (hr : X.2.2.2.2.2.2.2.2.1.sig.returnType = none) {F : Nat} {k2 : Nat → Int32 → Int32 → gM → Option (gM)} (hk2 : ∀ (z0 : Nat) (z1 : Int32) (z2 : Int32) (m : gM), k2 z0 z1 z2 m = some rm → gV X w 0 0 (gR X w none rm) 6 2 [(0, .ref z0), (1, .int z1), (2, .int z2)] [] m) : ∀ (n : Nat) (x0 : Nat) (x1 : Int32) (x2 : Int32) (x3 : Int64) (x5 : Int32) (m : gM), l_X4_followStatements_34 w.2.2.2.2.1 F k2 n x0 x1 x2 x3 x5 m = some rm → gV X w 0 0 (gR X w none rm) 6 34 [(0, .ref x0), (1, .int x1), (2, .int x2), (3, .long x3), (5, .int x5)] [] m := by
  intro n
  induction n with
  | zero => intro x0 x1 x2 x3 x5 m h; cases h
  | succ n ih => intro x0 x1 x2 x3 x5 m h; exact tb_X4_followStatements_34 (F := F) C hr hk2 ih h
def b_X4_followStatements_2 (sh : List gS) (F : Nat) (k2 : Nat → Int32 → Int32 → gM → Option (gM)) (x0 : Nat) (x1 : Int32) (x2 : Int32) (m : gM) : Option (gM) :=
  g_if (oB sh x0 4) ((m.2.2 x0 1).bind (fun t2 => g_if (oB sh t2 2) (if (m.1 t2 12) ≤ x2 then (some m) else (if ((x1 >>> (x2 &&& 31)) &&& (1 : Int32)) = 0 then ((m.2.2 x0 1).bind (fun t6 => g_if (oB sh t6 2) ((m.2.2 t6 9).bind (fun t8 => g_if (aB sh t8 .int x2) (nm (m.1 t8 (x2).toNatClampNeg) (fun v10 => l_X4_followStatements_34 sh F k2 F x0 x1 x2 0 v10 m)))))) else (b_X4_followStatements_86 sh F k2 x0 x1 x2 m)))))
set_option maxRecDepth 100000 in
set_option maxHeartbeats 4000000 in
theorem tb_X4_followStatements_2 {X : gX} {w : gW} {rm : gM} (C : gC X w K_X4_followStatements 6 RX4 4) (hr : X.2.2.2.2.2.2.2.2.1.sig.returnType = none) {F : Nat} {k2 : Nat → Int32 → Int32 → gM → Option (gM)} (hk2 : ∀ (z0 : Nat) (z1 : Int32) (z2 : Int32) (m : gM), k2 z0 z1 z2 m = some rm → gV X w 0 0 (gR X w none rm) 6 2 [(0, .ref z0), (1, .int z1), (2, .int z2)] [] m) {x0 : Nat} {x1 : Int32} {x2 : Int32} {m : gM} (h : b_X4_followStatements_2 w.2.2.2.2.1 F k2 x0 x1 x2 m = some rm) : gV X w 0 0 (gR X w none rm) 6 2 [(0, .ref x0), (1, .int x1), (2, .int x2)] [] m := by
  unfold b_X4_followStatements_2 at h
  refine v_iload_n (pc := 2) C 2 2 rfl rfl rfl ?_
  refine v_aload_n (pc := 3) C 3 0 rfl rfl rfl ?_
  obtain ⟨o1, h⟩ := g_okk h
  obtain ⟨t2, qt2, h⟩ := g_bd h
  refine v_getR (pc := 4) C 4 rfl lf_ScopeGraph_Resolver_15.get (g_oB o1) rfl qt2 ?_
  obtain ⟨o3, h⟩ := g_okk h
  refine v_getI (pc := 7) C 5 rfl lf_ScopeGraph_Resolver_23.get (g_oB o3) rfl ?_
  refine v_icmp_ge (pc := 10) C 6 92 rfl (by decide) (fun c4 => ?_) (fun c4 => ?_)
  · replace h := g_ifT c4 h
    cases g_s1' h
    exact v_vret (pc := 92) C 54 rfl hr
  · replace h := g_ifF c4 h
    refine v_iload_n (pc := 13) C 7 1 rfl rfl rfl ?_
    refine v_iload_n (pc := 14) C 8 2 rfl rfl rfl ?_
    refine v_ishr (pc := 15) C 9 rfl ?_
    refine v_iconst (pc := 16) C 10 1 rfl (by decide) ?_
    refine v_iand (pc := 17) C 11 rfl ?_
    refine v_if_ne (pc := 18) C 12 86 rfl (by decide) (fun c5 => ?_) (fun c5 => ?_)
    · replace h := g_ifF c5 h
      refine v_sub [(0, .ref x0), (1, .int x1), (2, .int x2)] [0, 1, 2] rfl ?_
      exact tb_X4_followStatements_86 (F := F) C hr hk2 h
    · replace h := g_ifT c5 h
      refine v_lconst (pc := 21) C 13 0 rfl (by decide) ?_
      refine v_lstore_n (pc := 22) (lv' := [(3, .long 0), (0, .ref x0), (1, .int x1), (2, .int x2)]) C 14 rfl rfl (by decide) rfl ?_
      refine v_aload_n (pc := 23) C 15 1 rfl rfl rfl ?_
      obtain ⟨t6, qt6, h⟩ := g_bd h
      refine v_getR (pc := 24) C 16 rfl lf_ScopeGraph_Resolver_15.get (g_oB o1) rfl qt6 ?_
      obtain ⟨o7, h⟩ := g_okk h
      obtain ⟨t8, qt8, h⟩ := g_bd h
      refine v_getR (pc := 27) C 17 rfl lf_ScopeGraph_Resolver_77 (g_oB o7) rfl qt8 ?_
      refine v_iload_n (pc := 30) C 18 3 rfl rfl rfl ?_
      obtain ⟨b9, h⟩ := g_okk h
      refine v_iald' (pc := 31) C 19 rfl b9 ?_
      refine v_topI (fun v10 ev10 => ?_)
      replace h := g_nm h ev10
      refine v_istore (pc := 32) (lv' := [(5, .int v10), (3, .long 0), (0, .ref x0), (1, .int x1), (2, .int x2)]) C 20 rfl (by decide) rfl ?_
      refine v_sub [(0, .ref x0), (1, .int x1), (2, .int x2), (3, .long 0), (5, .int v10)] [2, 3, 4, 1, 0] rfl ?_
      exact tl_X4_followStatements_34 (F := F) C hr hk2 _ _ _ _ _ _ _ h
def l_X4_followStatements_2 (sh : List gS) (F : Nat) : Nat → Nat → Int32 → Int32 → gM → Option (gM)
  | 0 => fun _ _ _ _ => none
  | n + 1 => fun x0 x1 x2 m => b_X4_followStatements_2 sh F (l_X4_followStatements_2 sh F n) x0 x1 x2 m
theorem tl_X4_followStatements_2 {X : gX} {w : gW} {rm : gM} (C : gC X w K_X4_followStatements 6 RX4 4) (hr : X.2.2.2.2.2.2.2.2.1.sig.returnType = none) {F : Nat} : ∀ (n : Nat) (x0 : Nat) (x1 : Int32) (x2 : Int32) (m : gM), l_X4_followStatements_2 w.2.2.2.2.1 F n x0 x1 x2 m = some rm → gV X w 0 0 (gR X w none rm) 6 2 [(0, .ref x0), (1, .int x1), (2, .int x2)] [] m := by
  intro n
  induction n with
  | zero => intro x0 x1 x2 m h; cases h
  | succ n ih => intro x0 x1 x2 m h; exact tb_X4_followStatements_2 (F := F) C hr ih h
def f_X4_followStatements (sh : List gS) (F : Nat) (x0 : Nat) (x1 : Int32) (m : gM) : Option (gM) :=
  l_X4_followStatements_2 sh F F x0 x1 0 m
set_option maxRecDepth 100000 in
set_option maxHeartbeats 4000000 in
theorem tf_X4_followStatements {X : gX} {w : gW} {rm : gM} (C : gC X w K_X4_followStatements 6 RX4 4) (hr : X.2.2.2.2.2.2.2.2.1.sig.returnType = none) {F : Nat} {x0 : Nat} {x1 : Int32} {m : gM} (h : f_X4_followStatements w.2.2.2.2.1 F x0 x1 m = some rm) : gV X w 0 0 (gR X w none rm) 6 0 [(0, .ref x0), (1, .int x1)] [] m := by
  unfold f_X4_followStatements at h
  refine v_iconst (pc := 0) C 0 0 rfl (by decide) ?_
  refine v_istore_n (pc := 1) (lv' := [(2, .int 0), (0, .ref x0), (1, .int x1)]) C 1 rfl rfl (by decide) rfl ?_
  refine v_sub [(0, .ref x0), (1, .int x1), (2, .int 0)] [1, 2, 0] rfl ?_
  exact tl_X4_followStatements_2 (F := F) C hr _ _ _ _ _ h
theorem c_X4_followStatements {l : Launch} {w : gW} {rm : gM} (hJ : gJok w) {F : Nat} {x0 : Nat} {x1 : Int32} {m : gM} (h : f_X4_followStatements w.2.2.2.2.1 F x0 x1 m = some rm) : gMet l 4 yX4_followStatements cX4_followStatements 6 none w [.ref x0, .int x1] m none rm :=
  gMet.of hJ mf_X4_followStatements dk_X4_followStatements (Nat.le_of_ble_eq_true rfl) (fun X _ C hr => tf_X4_followStatements (F := F) C hr h)
def b_X4_keep_95 (sh : List gS) (F : Nat) (y0 : Int32) (y1 : Int32) (y2 : Nat) (m : gM) : Option (gM) :=
  g_if (aB sh y2 .int y1) (nm (gsI m y2 (y1).toNatClampNeg y0) (fun m2 => some m2))
set_option maxRecDepth 100000 in
set_option maxHeartbeats 4000000 in
theorem tb_X4_keep_95 {X : gX} {w : gW} {rm : gM} (C : gC X w K_X4_keep 5 RX4 0) (hr : X.2.2.2.2.2.2.2.2.1.sig.returnType = none) {F : Nat} {y0 : Int32} {y1 : Int32} {y2 : Nat} {m : gM} (h : b_X4_keep_95 w.2.2.2.2.1 F y0 y1 y2 m = some rm) : gV X w 0 0 (gR X w none rm) 5 95 [] [.int y0, .int y1, .ref y2] m := by
  unfold b_X4_keep_95 at h
  obtain ⟨b1, h⟩ := g_okk h
  refine v_iast' (pc := 95) C 53 rfl b1 ?_
  refine v_topM (fun m2 em2 => ?_)
  replace h := g_nm h em2
  cases g_s1' h
  exact v_vret (pc := 96) C 54 rfl hr
def b_X4_keep_65 (sh : List gS) (F : Nat) (x0 : Nat) (x1 : Int32) (x2 : Int64) (y0 : Int32) (m : gM) : Option (gM) :=
  g_if (oB sh x0 4) ((m.2.2 x0 2).bind (fun t2 => g_if (oB sh t2 1) ((m.2.2 t2 3).bind (fun t4 => if x2 = (0 : Int64) then (b_X4_keep_95 sh F (-1) x1 t4 m) else (if y0 = 0 then (b_X4_keep_95 sh F 0 x1 t4 m) else (b_X4_keep_95 sh F 1 x1 t4 m))))))
set_option maxRecDepth 100000 in
set_option maxHeartbeats 4000000 in
theorem tb_X4_keep_65 {X : gX} {w : gW} {rm : gM} (C : gC X w K_X4_keep 5 RX4 0) (hr : X.2.2.2.2.2.2.2.2.1.sig.returnType = none) {F : Nat} {x0 : Nat} {x1 : Int32} {x2 : Int64} {y0 : Int32} {m : gM} (h : b_X4_keep_65 w.2.2.2.2.1 F x0 x1 x2 y0 m = some rm) : gV X w 0 0 (gR X w none rm) 5 65 [(0, .ref x0), (1, .int x1), (2, .long x2)] [.int y0] m := by
  unfold b_X4_keep_65 at h
  refine v_istore (pc := 65) (lv' := [(4, .int y0), (0, .ref x0), (1, .int x1), (2, .long x2)]) C 37 rfl (by decide) rfl ?_
  refine v_aload_n (pc := 67) C 38 1 rfl rfl rfl ?_
  obtain ⟨o1, h⟩ := g_okk h
  obtain ⟨t2, qt2, h⟩ := g_bd h
  refine v_getR (pc := 68) C 39 rfl lf_ScopeGraph_Resolver_19.get (g_oB o1) rfl qt2 ?_
  obtain ⟨o3, h⟩ := g_okk h
  obtain ⟨t4, qt4, h⟩ := g_bd h
  refine v_getR (pc := 71) C 40 rfl lf_ScopeGraph_Resolver_74 (g_oB o3) rfl qt4 ?_
  refine v_iload_n (pc := 74) C 41 2 rfl rfl rfl ?_
  refine v_lload_n (pc := 75) C 42 3 rfl rfl rfl ?_
  refine v_lconst (pc := 76) C 43 0 rfl (by decide) ?_
  refine v_lcmp (pc := 77) C 44 rfl ?_
  refine v_lif_ne (pc := 78) C 45 85 rfl (by decide) (fun c5 => ?_) (fun c5 => ?_)
  · replace h := g_ifF c5 h
    refine v_iload (pc := 85) C 48 0 rfl rfl ?_
    refine v_if_eq (pc := 87) C 49 94 rfl (by decide) (fun c6 => ?_) (fun c6 => ?_)
    · replace h := g_ifT c6 h
      refine v_iconst (pc := 94) C 52 0 rfl (by decide) ?_
      refine v_sub [] [] rfl ?_
      exact tb_X4_keep_95 (F := F) C hr h
    · replace h := g_ifF c6 h
      refine v_iconst (pc := 90) C 50 1 rfl (by decide) ?_
      refine v_goto (pc := 91) C 51 95 rfl (by decide) ?_
      refine v_sub [] [] rfl ?_
      exact tb_X4_keep_95 (F := F) C hr h
  · replace h := g_ifT c5 h
    refine v_iconst (pc := 81) C 46 (-1) rfl (by decide) ?_
    refine v_goto (pc := 82) C 47 95 rfl (by decide) ?_
    refine v_sub [] [] rfl ?_
    exact tb_X4_keep_95 (F := F) C hr h
def b_X4_keep_32 (sh : List gS) (F : Nat) (x0 : Nat) (x1 : Int32) (x2 : Int64) (y0 : Int32) (y1 : Int32) (y2 : Nat) (m : gM) : Option (gM) :=
  g_if (aB sh y2 .int y1) (nm (gsI m y2 (y1).toNatClampNeg y0) (fun m2 => g_if (oB sh x0 4) ((m2.2.2 x0 2).bind (fun t4 => g_if (oB sh t4 1) ((m2.2.2 t4 0).bind (fun t6 => g_if (aB sh t6 .long x1) ((m2.2.2 x0 1).bind (fun t8 => g_if (oB sh t8 2) ((m2.2.2 t8 4).bind (fun t10 => g_if (aB sh t10 .long (m2.1 x0 4)) (if ((m2.2.1 t6 (x1).toNatClampNeg) &&& (m2.2.1 t10 (m2.1 x0 4).toNatClampNeg)) = (0 : Int64) then (b_X4_keep_65 sh F x0 x1 x2 0 m2) else (b_X4_keep_65 sh F x0 x1 x2 1 m2))))))))))))
set_option maxRecDepth 100000 in
set_option maxHeartbeats 4000000 in
theorem tb_X4_keep_32 {X : gX} {w : gW} {rm : gM} (C : gC X w K_X4_keep 5 RX4 0) (hr : X.2.2.2.2.2.2.2.2.1.sig.returnType = none) {F : Nat} {x0 : Nat} {x1 : Int32} {x2 : Int64} {y0 : Int32} {y1 : Int32} {y2 : Nat} {m : gM} (h : b_X4_keep_32 w.2.2.2.2.1 F x0 x1 x2 y0 y1 y2 m = some rm) : gV X w 0 0 (gR X w none rm) 5 32 [(0, .ref x0), (1, .int x1), (2, .long x2)] [.int y0, .int y1, .ref y2] m := by
  unfold b_X4_keep_32 at h
  obtain ⟨b1, h⟩ := g_okk h
  refine v_iast' (pc := 32) C 18 rfl b1 ?_
  refine v_topM (fun m2 em2 => ?_)
  replace h := g_nm h em2
  refine v_aload_n (pc := 33) C 19 0 rfl rfl rfl ?_
  obtain ⟨o3, h⟩ := g_okk h
  obtain ⟨t4, qt4, h⟩ := g_bd h
  refine v_getR (pc := 34) C 20 rfl lf_ScopeGraph_Resolver_19.get (g_oB o3) rfl qt4 ?_
  obtain ⟨o5, h⟩ := g_okk h
  obtain ⟨t6, qt6, h⟩ := g_bd h
  refine v_getR (pc := 37) C 21 rfl lf_ScopeGraph_Resolver_65 (g_oB o5) rfl qt6 ?_
  refine v_iload_n (pc := 40) C 22 1 rfl rfl rfl ?_
  obtain ⟨b7, h⟩ := g_okk h
  refine v_lald' (pc := 41) C 23 rfl b7 ?_
  refine v_aload_n (pc := 42) C 24 0 rfl rfl rfl ?_
  obtain ⟨t8, qt8, h⟩ := g_bd h
  refine v_getR (pc := 43) C 25 rfl lf_ScopeGraph_Resolver_15.get (g_oB o3) rfl qt8 ?_
  obtain ⟨o9, h⟩ := g_okk h
  obtain ⟨t10, qt10, h⟩ := g_bd h
  refine v_getR (pc := 46) C 26 rfl lf_ScopeGraph_Resolver_68 (g_oB o9) rfl qt10 ?_
  refine v_aload_n (pc := 49) C 27 0 rfl rfl rfl ?_
  refine v_getI (pc := 50) C 28 rfl lf_ScopeGraph_Resolver_71.get (g_oB o3) rfl ?_
  obtain ⟨b11, h⟩ := g_okk h
  refine v_lald' (pc := 53) C 29 rfl b11 ?_
  refine v_land (pc := 54) C 30 rfl ?_
  refine v_lconst (pc := 55) C 31 0 rfl (by decide) ?_
  refine v_lcmp (pc := 56) C 32 rfl ?_
  refine v_lif_eq (pc := 57) C 33 64 rfl (by decide) (fun c12 => ?_) (fun c12 => ?_)
  · replace h := g_ifT c12 h
    refine v_iconst (pc := 64) C 36 0 rfl (by decide) ?_
    refine v_sub [(0, .ref x0), (1, .int x1), (2, .long x2)] [0, 1, 2] rfl ?_
    exact tb_X4_keep_65 (F := F) C hr h
  · replace h := g_ifF c12 h
    refine v_iconst (pc := 60) C 34 1 rfl (by decide) ?_
    refine v_goto (pc := 61) C 35 65 rfl (by decide) ?_
    refine v_sub [(0, .ref x0), (1, .int x1), (2, .long x2)] [0, 1, 2] rfl ?_
    exact tb_X4_keep_65 (F := F) C hr h
def f_X4_keep (sh : List gS) (F : Nat) (x0 : Nat) (x1 : Int32) (x2 : Int64) (m : gM) : Option (gM) :=
  g_if (oB sh x0 4) ((m.2.2 x0 2).bind (fun t2 => g_if (oB sh t2 1) ((m.2.2 t2 1).bind (fun t4 => g_if (aB sh t4 .long x1) (nm (gsL m t4 (x1).toNatClampNeg x2) (fun m6 => (m6.2.2 x0 2).bind (fun t7 => g_if (oB sh t7 1) ((m6.2.2 t7 2).bind (fun t9 => if x2 = (0 : Int64) then (b_X4_keep_32 sh F x0 x1 x2 (-1) x1 t9 m6) else (b_X4_keep_32 sh F x0 x1 x2 (m6.1 x0 3) x1 t9 m6))))))))))
set_option maxRecDepth 100000 in
set_option maxHeartbeats 4000000 in
theorem tf_X4_keep {X : gX} {w : gW} {rm : gM} (C : gC X w K_X4_keep 5 RX4 0) (hr : X.2.2.2.2.2.2.2.2.1.sig.returnType = none) {F : Nat} {x0 : Nat} {x1 : Int32} {x2 : Int64} {m : gM} (h : f_X4_keep w.2.2.2.2.1 F x0 x1 x2 m = some rm) : gV X w 0 0 (gR X w none rm) 5 0 [(0, .ref x0), (1, .int x1), (2, .long x2)] [] m := by
  unfold f_X4_keep at h
  refine v_aload_n (pc := 0) C 0 0 rfl rfl rfl ?_
  obtain ⟨o1, h⟩ := g_okk h
  obtain ⟨t2, qt2, h⟩ := g_bd h
  refine v_getR (pc := 1) C 1 rfl lf_ScopeGraph_Resolver_19.get (g_oB o1) rfl qt2 ?_
  obtain ⟨o3, h⟩ := g_okk h
  obtain ⟨t4, qt4, h⟩ := g_bd h
  refine v_getR (pc := 4) C 2 rfl lf_ScopeGraph_Resolver_54 (g_oB o3) rfl qt4 ?_
  refine v_iload_n (pc := 7) C 3 1 rfl rfl rfl ?_
  refine v_lload_n (pc := 8) C 4 2 rfl rfl rfl ?_
  obtain ⟨b5, h⟩ := g_okk h
  refine v_last' (pc := 9) C 5 rfl b5 ?_
  refine v_topM (fun m6 em6 => ?_)
  replace h := g_nm h em6
  refine v_aload_n (pc := 10) C 6 0 rfl rfl rfl ?_
  obtain ⟨t7, qt7, h⟩ := g_bd h
  refine v_getR (pc := 11) C 7 rfl lf_ScopeGraph_Resolver_19.get (g_oB o1) rfl qt7 ?_
  obtain ⟨o8, h⟩ := g_okk h
  obtain ⟨t9, qt9, h⟩ := g_bd h
  refine v_getR (pc := 14) C 8 rfl lf_ScopeGraph_Resolver_59 (g_oB o8) rfl qt9 ?_
  refine v_iload_n (pc := 17) C 9 1 rfl rfl rfl ?_
  refine v_lload_n (pc := 18) C 10 2 rfl rfl rfl ?_
  refine v_lconst (pc := 19) C 11 0 rfl (by decide) ?_
  refine v_lcmp (pc := 20) C 12 rfl ?_
  refine v_lif_ne (pc := 21) C 13 28 rfl (by decide) (fun c10 => ?_) (fun c10 => ?_)
  · replace h := g_ifF c10 h
    refine v_aload_n (pc := 28) C 16 0 rfl rfl rfl ?_
    refine v_getI (pc := 29) C 17 rfl lf_ScopeGraph_Resolver_62.get (g_oB o1) rfl ?_
    refine v_sub [(0, .ref x0), (1, .int x1), (2, .long x2)] [0, 1, 2] rfl ?_
    exact tb_X4_keep_32 (F := F) C hr h
  · replace h := g_ifT c10 h
    refine v_iconst (pc := 24) C 14 (-1) rfl (by decide) ?_
    refine v_goto (pc := 25) C 15 32 rfl (by decide) ?_
    refine v_sub [(0, .ref x0), (1, .int x1), (2, .long x2)] [0, 1, 2] rfl ?_
    exact tb_X4_keep_32 (F := F) C hr h
theorem c_X4_keep {l : Launch} {w : gW} {rm : gM} (hJ : gJok w) {F : Nat} {x0 : Nat} {x1 : Int32} {x2 : Int64} {m : gM} (h : f_X4_keep w.2.2.2.2.1 F x0 x1 x2 m = some rm) : gMet l 0 yX4_keep cX4_keep 5 none w [.ref x0, .int x1, .long x2] m none rm :=
  gMet.of hJ mf_X4_keep dk_X4_keep (Nat.le_of_ble_eq_true rfl) (fun X _ C hr => tf_X4_keep (F := F) C hr h)
def b_X4_resolve_87 (sh : List gS) (F : Nat) (k42 : Nat → Int64 → Int32 → gM → Option (gM)) (x0 : Nat) (x5 : Int32) (y0 : Int32) (y1 : Int64) (y2 : Int32) (y3 : Nat) (m : gM) : Option (gM) :=
  g_if (oB sh y3 4) ((f_X4_means sh F y3 y2 y1 y0 m).bind (fun q4 => nm q4.1 (fun r3 => nm q4.2 (fun m2 => g_if (oB sh x0 4) ((f_X4_keep sh F x0 x5 r3 m2).bind (fun m6 => nm (x5 + Int32.ofInt 1) (fun v8 => k42 x0 r3 v8 m6)))))))
set_option maxRecDepth 100000 in
set_option maxHeartbeats 4000000 in
theorem tb_X4_resolve_87 {X : gX} {w : gW} {rm : gM} (C : gC X w K_X4_resolve 7 RX4 5) (hr : X.2.2.2.2.2.2.2.2.1.sig.returnType = none) {F : Nat} {k42 : Nat → Int64 → Int32 → gM → Option (gM)} (hk42 : ∀ (z0 : Nat) (z3 : Int64) (z5 : Int32) (m : gM), k42 z0 z3 z5 m = some rm → gV X w 0 0 (gR X w none rm) 7 42 [(0, .ref z0), (3, .long z3), (5, .int z5)] [] m) {x0 : Nat} {x5 : Int32} {y0 : Int32} {y1 : Int64} {y2 : Int32} {y3 : Nat} {m : gM} (h : b_X4_resolve_87 w.2.2.2.2.1 F k42 x0 x5 y0 y1 y2 y3 m = some rm) : gV X w 0 0 (gR X w none rm) 7 87 [(0, .ref x0), (5, .int x5)] [.int y0, .long y1, .int y2, .ref y3] m := by
  unfold b_X4_resolve_87 at h
  obtain ⟨o1, h⟩ := g_okk h
  obtain ⟨⟨r3, m2⟩, qm2, h⟩ := g_bd h
  replace h := g_nm (y := m2) (g_nm (y := r3) h rfl) rfl
  refine v_callV (pc := 87) C 48 rfl mf_X4_means clX4 rfl im_X4_means lm_ScopeGraph_Resolver_46 (c_X4_means C.2.2.2.2.2.2.2.2.2.2.2 qm2) (by decide) rfl (g_oB o1) (Nat.le_of_ble_eq_true rfl) ⟨Nat.zero_le _, Nat.zero_le _⟩ rfl ?_
  change gV X w 0 0 (gR X w none rm) 7 90 [(0, .ref x0), (5, .int x5)] [.long r3] m2
  refine v_lstore_n (pc := 90) (lv' := [(3, .long r3), (0, .ref x0), (5, .int x5)]) C 49 rfl rfl (by decide) rfl ?_
  refine v_aload_n (pc := 91) C 50 1 rfl rfl rfl ?_
  refine v_iload (pc := 92) C 51 2 rfl rfl ?_
  refine v_lload_n (pc := 94) C 52 0 rfl rfl rfl ?_
  obtain ⟨o5, h⟩ := g_okk h
  obtain ⟨m6, qm6, h⟩ := g_bd h
  refine v_callV (pc := 95) C 53 rfl mf_X4_keep clX4 rfl im_X4_keep lm_ScopeGraph_Resolver_50 (c_X4_keep C.2.2.2.2.2.2.2.2.2.2.2 qm6) (by decide) rfl (g_oB o5) (Nat.le_of_ble_eq_true rfl) ⟨Nat.zero_le _, Nat.zero_le _⟩ rfl ?_
  change gV X w 0 0 (gR X w none rm) 7 98 [(3, .long r3), (0, .ref x0), (5, .int x5)] [] m6
  refine v_iincN (pc := 98) C 54 2 (fun v8 => [(5, .int v8), (3, .long r3), (0, .ref x0)]) rfl rfl (by decide) (fun _ => rfl) (fun v8 ev8 => ?_)
  replace h := g_nm h ev8
  refine v_goto (pc := 101) C 55 42 rfl (by decide) ?_
  refine v_sub [(0, .ref x0), (3, .long r3), (5, .int v8)] [2, 1, 0] rfl ?_
  exact hk42 _ _ _ _ h
def b_X4_resolve_42 (sh : List gS) (F : Nat) (k42 : Nat → Int64 → Int32 → gM → Option (gM)) (x0 : Nat) (x3 : Int64) (x5 : Int32) (m : gM) : Option (gM) :=
  g_if (oB sh x0 4) ((m.2.2 x0 1).bind (fun t2 => g_if (oB sh t2 2) ((m.2.2 t2 1).bind (fun t4 => g_if (oB sh t4 0) (if (m.1 t4 4) ≤ x5 then (some m) else ((m.2.2 x0 1).bind (fun t7 => g_if (oB sh t7 2) ((m.2.2 t7 8).bind (fun t9 => g_if (aB sh t9 .int x5) (nm (m.1 t9 (x5).toNatClampNeg) (fun v11 => if v11 = ((-1) : Int32) then (b_X4_resolve_87 sh F k42 x0 x5 0 x3 x5 x0 m) else (b_X4_resolve_87 sh F k42 x0 x5 ((1 : Int32) <<< (v11 &&& 31)) x3 x5 x0 m))))))))))))
set_option maxRecDepth 100000 in
set_option maxHeartbeats 4000000 in
theorem tb_X4_resolve_42 {X : gX} {w : gW} {rm : gM} (C : gC X w K_X4_resolve 7 RX4 5) (hr : X.2.2.2.2.2.2.2.2.1.sig.returnType = none) {F : Nat} {k42 : Nat → Int64 → Int32 → gM → Option (gM)} (hk42 : ∀ (z0 : Nat) (z3 : Int64) (z5 : Int32) (m : gM), k42 z0 z3 z5 m = some rm → gV X w 0 0 (gR X w none rm) 7 42 [(0, .ref z0), (3, .long z3), (5, .int z5)] [] m) {x0 : Nat} {x3 : Int64} {x5 : Int32} {m : gM} (h : b_X4_resolve_42 w.2.2.2.2.1 F k42 x0 x3 x5 m = some rm) : gV X w 0 0 (gR X w none rm) 7 42 [(0, .ref x0), (3, .long x3), (5, .int x5)] [] m := by
  unfold b_X4_resolve_42 at h
  refine v_iload (pc := 42) C 25 2 rfl rfl ?_
  refine v_aload_n (pc := 44) C 26 0 rfl rfl rfl ?_
  obtain ⟨o1, h⟩ := g_okk h
  obtain ⟨t2, qt2, h⟩ := g_bd h
  refine v_getR (pc := 45) C 27 rfl lf_ScopeGraph_Resolver_15.get (g_oB o1) rfl qt2 ?_
  obtain ⟨o3, h⟩ := g_okk h
  obtain ⟨t4, qt4, h⟩ := g_bd h
  refine v_getR (pc := 48) C 28 rfl lf_ScopeGraph_Resolver_33 (g_oB o3) rfl qt4 ?_
  obtain ⟨o5, h⟩ := g_okk h
  refine v_getI (pc := 51) C 29 rfl lf_ScopeGraph_Resolver_37.get (g_oB o5) rfl ?_
  refine v_icmp_ge (pc := 54) C 30 104 rfl (by decide) (fun c6 => ?_) (fun c6 => ?_)
  · replace h := g_ifT c6 h
    cases g_s1' h
    exact v_vret (pc := 104) C 56 rfl hr
  · replace h := g_ifF c6 h
    refine v_aload_n (pc := 57) C 31 0 rfl rfl rfl ?_
    obtain ⟨t7, qt7, h⟩ := g_bd h
    refine v_getR (pc := 58) C 32 rfl lf_ScopeGraph_Resolver_15.get (g_oB o1) rfl qt7 ?_
    obtain ⟨o8, h⟩ := g_okk h
    obtain ⟨t9, qt9, h⟩ := g_bd h
    refine v_getR (pc := 61) C 33 rfl lf_ScopeGraph_Resolver_42 (g_oB o8) rfl qt9 ?_
    refine v_iload (pc := 64) C 34 2 rfl rfl ?_
    obtain ⟨b10, h⟩ := g_okk h
    refine v_iald' (pc := 66) C 35 rfl b10 ?_
    refine v_topI (fun v11 ev11 => ?_)
    replace h := g_nm h ev11
    refine v_istore (pc := 67) (lv' := [(6, .int v11), (0, .ref x0), (3, .long x3), (5, .int x5)]) C 36 rfl (by decide) rfl ?_
    refine v_aload_n (pc := 69) C 37 1 rfl rfl rfl ?_
    refine v_iload (pc := 70) C 38 3 rfl rfl ?_
    refine v_lload_n (pc := 72) C 39 2 rfl rfl rfl ?_
    refine v_iload (pc := 73) C 40 0 rfl rfl ?_
    refine v_iconst (pc := 75) C 41 (-1) rfl (by decide) ?_
    refine v_icmp_ne (pc := 76) C 42 83 rfl (by decide) (fun c12 => ?_) (fun c12 => ?_)
    · replace h := g_ifF c12 h
      refine v_iconst (pc := 83) C 45 1 rfl (by decide) ?_
      refine v_iload (pc := 84) C 46 0 rfl rfl ?_
      refine v_ishl (pc := 86) C 47 rfl ?_
      refine v_sub [(0, .ref x0), (5, .int x5)] [1, 3] rfl ?_
      exact tb_X4_resolve_87 (F := F) C hr hk42 h
    · replace h := g_ifT c12 h
      refine v_iconst (pc := 79) C 43 0 rfl (by decide) ?_
      refine v_goto (pc := 80) C 44 87 rfl (by decide) ?_
      refine v_sub [(0, .ref x0), (5, .int x5)] [1, 3] rfl ?_
      exact tb_X4_resolve_87 (F := F) C hr hk42 h
def l_X4_resolve_42 (sh : List gS) (F : Nat) : Nat → Nat → Int64 → Int32 → gM → Option (gM)
  | 0 => fun _ _ _ _ => none
  | n + 1 => fun x0 x3 x5 m => b_X4_resolve_42 sh F (l_X4_resolve_42 sh F n) x0 x3 x5 m
theorem tl_X4_resolve_42 {X : gX} {w : gW} {rm : gM} (C : gC X w K_X4_resolve 7 RX4 5) (hr : X.2.2.2.2.2.2.2.2.1.sig.returnType = none) {F : Nat} : ∀ (n : Nat) (x0 : Nat) (x3 : Int64) (x5 : Int32) (m : gM), l_X4_resolve_42 w.2.2.2.2.1 F n x0 x3 x5 m = some rm → gV X w 0 0 (gR X w none rm) 7 42 [(0, .ref x0), (3, .long x3), (5, .int x5)] [] m := by
  intro n
  induction n with
  | zero => intro x0 x3 x5 m h; cases h
  | succ n ih => intro x0 x3 x5 m h; exact tb_X4_resolve_42 (F := F) C hr ih h
def b_X4_resolve_22 (sh : List gS) (F : Nat) (k22 : Nat → Int32 → gM → Option (gM)) (x0 : Nat) (x3 : Int32) (m : gM) : Option (gM) :=
  if x3 < 0 then (l_X4_resolve_42 sh F F x0 0 0 m) else (g_if (oB sh x0 4) ((f_X4_followStatements sh F x0 x3 m).bind (fun m3 => nm (x3 + Int32.ofInt (-1)) (fun v5 => k22 x0 v5 m3))))
set_option maxRecDepth 100000 in
set_option maxHeartbeats 4000000 in
theorem tb_X4_resolve_22 {X : gX} {w : gW} {rm : gM} (C : gC X w K_X4_resolve 7 RX4 5) (hr : X.2.2.2.2.2.2.2.2.1.sig.returnType = none) {F : Nat} {k22 : Nat → Int32 → gM → Option (gM)} (hk22 : ∀ (z0 : Nat) (z3 : Int32) (m : gM), k22 z0 z3 m = some rm → gV X w 0 0 (gR X w none rm) 7 22 [(0, .ref z0), (3, .int z3)] [] m) {x0 : Nat} {x3 : Int32} {m : gM} (h : b_X4_resolve_22 w.2.2.2.2.1 F k22 x0 x3 m = some rm) : gV X w 0 0 (gR X w none rm) 7 22 [(0, .ref x0), (3, .int x3)] [] m := by
  unfold b_X4_resolve_22 at h
  refine v_iload_n (pc := 22) C 14 1 rfl rfl rfl ?_
  refine v_if_lt (pc := 23) C 15 37 rfl (by decide) (fun c1 => ?_) (fun c1 => ?_)
  · replace h := g_ifT c1 h
    refine v_lconst (pc := 37) C 21 0 rfl (by decide) ?_
    refine v_lstore_n (pc := 38) (lv' := [(3, .long 0), (0, .ref x0)]) C 22 rfl rfl (by decide) rfl ?_
    refine v_iconst (pc := 39) C 23 0 rfl (by decide) ?_
    refine v_istore (pc := 40) (lv' := [(5, .int 0), (3, .long 0), (0, .ref x0)]) C 24 rfl (by decide) rfl ?_
    refine v_sub [(0, .ref x0), (3, .long 0), (5, .int 0)] [2, 1, 0] rfl ?_
    exact tl_X4_resolve_42 (F := F) C hr _ _ _ _ _ h
  · replace h := g_ifF c1 h
    refine v_aload_n (pc := 26) C 16 0 rfl rfl rfl ?_
    refine v_iload_n (pc := 27) C 17 1 rfl rfl rfl ?_
    obtain ⟨o2, h⟩ := g_okk h
    obtain ⟨m3, qm3, h⟩ := g_bd h
    refine v_callV (pc := 28) C 18 rfl mf_X4_followStatements clX4 rfl im_X4_followStatements lm_ScopeGraph_Resolver_29 (c_X4_followStatements C.2.2.2.2.2.2.2.2.2.2.2 qm3) (by decide) rfl (g_oB o2) (Nat.le_of_ble_eq_true rfl) ⟨Nat.zero_le _, Nat.zero_le _⟩ rfl ?_
    change gV X w 0 0 (gR X w none rm) 7 31 [(0, .ref x0), (3, .int x3)] [] m3
    refine v_iincN (pc := 31) C 19 1 (fun v5 => [(3, .int v5), (0, .ref x0)]) rfl rfl (by decide) (fun _ => rfl) (fun v5 ev5 => ?_)
    replace h := g_nm h ev5
    refine v_goto (pc := 34) C 20 22 rfl (by decide) ?_
    refine v_sub [(0, .ref x0), (3, .int v5)] [1, 0] rfl ?_
    exact hk22 _ _ _ h
def l_X4_resolve_22 (sh : List gS) (F : Nat) : Nat → Nat → Int32 → gM → Option (gM)
  | 0 => fun _ _ _ => none
  | n + 1 => fun x0 x3 m => b_X4_resolve_22 sh F (l_X4_resolve_22 sh F n) x0 x3 m
theorem tl_X4_resolve_22 {X : gX} {w : gW} {rm : gM} (C : gC X w K_X4_resolve 7 RX4 5) (hr : X.2.2.2.2.2.2.2.2.1.sig.returnType = none) {F : Nat} : ∀ (n : Nat) (x0 : Nat) (x3 : Int32) (m : gM), l_X4_resolve_22 w.2.2.2.2.1 F n x0 x3 m = some rm → gV X w 0 0 (gR X w none rm) 7 22 [(0, .ref x0), (3, .int x3)] [] m := by
  intro n
  induction n with
  | zero => intro x0 x3 m h; cases h
  | succ n ih => intro x0 x3 m h; exact tb_X4_resolve_22 (F := F) C hr ih h
def f_X4_resolve (sh : List gS) (F : Nat) (x0 : Nat) (x1 : Nat) (x2 : Nat) (m : gM) : Option (gM) :=
  g_if (oB sh x0 4) (nm (gsR m x0 1 (some x1)) (fun m2 => nm (gsR m2 x0 2 (some x2)) (fun m3 => (m3.2.2 x0 1).bind (fun t4 => g_if (oB sh t4 2) (nm (((1 : Int32) <<< ((m3.1 t4 12) &&& 31)) - (1 : Int32)) (fun v6 => l_X4_resolve_22 sh F F x0 v6 m3))))))
set_option maxRecDepth 100000 in
set_option maxHeartbeats 4000000 in
theorem tf_X4_resolve {X : gX} {w : gW} {rm : gM} (C : gC X w K_X4_resolve 7 RX4 5) (hr : X.2.2.2.2.2.2.2.2.1.sig.returnType = none) {F : Nat} {x0 : Nat} {x1 : Nat} {x2 : Nat} {m : gM} (h : f_X4_resolve w.2.2.2.2.1 F x0 x1 x2 m = some rm) : gV X w 0 0 (gR X w none rm) 7 0 [(0, .ref x0), (1, .ref x1), (2, .ref x2)] [] m := by
  unfold f_X4_resolve at h
  refine v_aload_n (pc := 0) C 0 0 rfl rfl rfl ?_
  refine v_aload_n (pc := 1) C 1 1 rfl rfl rfl ?_
  obtain ⟨o1, h⟩ := g_okk h
  refine v_putR (pc := 2) C 2 rfl lf_ScopeGraph_Resolver_15 (g_oB o1) rfl ?_
  refine v_topM (fun m2 em2 => ?_)
  replace h := g_nm h em2
  refine v_aload_n (pc := 5) C 3 0 rfl rfl rfl ?_
  refine v_aload_n (pc := 6) C 4 2 rfl rfl rfl ?_
  refine v_putR (pc := 7) C 5 rfl lf_ScopeGraph_Resolver_19 (g_oB o1) rfl ?_
  refine v_topM (fun m3 em3 => ?_)
  replace h := g_nm h em3
  refine v_iconst (pc := 10) C 6 1 rfl (by decide) ?_
  refine v_aload_n (pc := 11) C 7 0 rfl rfl rfl ?_
  obtain ⟨t4, qt4, h⟩ := g_bd h
  refine v_getR (pc := 12) C 8 rfl lf_ScopeGraph_Resolver_15.get (g_oB o1) rfl qt4 ?_
  obtain ⟨o5, h⟩ := g_okk h
  refine v_getI (pc := 15) C 9 rfl lf_ScopeGraph_Resolver_23.get (g_oB o5) rfl ?_
  refine v_ishl (pc := 18) C 10 rfl ?_
  refine v_iconst (pc := 19) C 11 1 rfl (by decide) ?_
  refine v_isub (pc := 20) C 12 rfl ?_
  refine v_topI (fun v6 ev6 => ?_)
  replace h := g_nm h ev6
  refine v_istore_n (pc := 21) (lv' := [(3, .int v6), (0, .ref x0), (1, .ref x1), (2, .ref x2)]) C 13 rfl rfl (by decide) rfl ?_
  refine v_sub [(0, .ref x0), (3, .int v6)] [1, 0] rfl ?_
  exact tl_X4_resolve_22 (F := F) C hr _ _ _ _ h
theorem c_X4_resolve {l : Launch} {w : gW} {rm : gM} (hJ : gJok w) {F : Nat} {x0 : Nat} {x1 : Nat} {x2 : Nat} {m : gM} (h : f_X4_resolve w.2.2.2.2.1 F x0 x1 x2 m = some rm) : gMet l 5 yX4_resolve cX4_resolve 7 none w [.ref x0, .ref x1, .ref x2] m none rm :=
  gMet.of hJ mf_X4_resolve dk_X4_resolve (Nat.le_of_ble_eq_true rfl) (fun X _ C hr => tf_X4_resolve (F := F) C hr h)
def f_X5_add (sh : List gS) (F : Nat) (x0 : Nat) (x1 : Int32) (m : gM) : Option (gM) :=
  g_if (oB sh x0 5) (if (m.1 x0 1) < 0 then (some m) else (if (4000 : Int32) ≤ (m.1 x0 1) then (some m) else ((m.2.2 x0 0).bind (fun t4 => g_if (aB sh t4 .byte (m.1 x0 1)) (nm (gsI m t4 (m.1 x0 1).toNatClampNeg (vp_nar .byte (x1.toInt8.toInt32))) (fun m6 => nm (gsI m6 x0 1 ((m6.1 x0 1) + (1 : Int32))) (fun m7 => some m7)))))))
set_option maxRecDepth 100000 in
set_option maxHeartbeats 4000000 in
theorem tf_X5_add {X : gX} {w : gW} {rm : gM} (C : gC X w K_X5_add 2 RX5 0) (hr : X.2.2.2.2.2.2.2.2.1.sig.returnType = none) {F : Nat} {x0 : Nat} {x1 : Int32} {m : gM} (h : f_X5_add w.2.2.2.2.1 F x0 x1 m = some rm) : gV X w 0 0 (gR X w none rm) 2 0 [(0, .ref x0), (1, .int x1)] [] m := by
  unfold f_X5_add at h
  refine v_aload_n (pc := 0) C 0 0 rfl rfl rfl ?_
  obtain ⟨o1, h⟩ := g_okk h
  refine v_getI (pc := 1) C 1 rfl lf_ScopeGraph_Tape_15.get (g_oB o1) rfl ?_
  refine v_if_lt (pc := 4) C 2 38 rfl (by decide) (fun c2 => ?_) (fun c2 => ?_)
  · replace h := g_ifT c2 h
    cases g_s1' h
    exact v_vret (pc := 38) C 20 rfl hr
  · replace h := g_ifF c2 h
    refine v_aload_n (pc := 7) C 3 0 rfl rfl rfl ?_
    refine v_getI (pc := 8) C 4 rfl lf_ScopeGraph_Tape_15.get (g_oB o1) rfl ?_
    refine v_sipush (pc := 11) C 5 4000 rfl (by decide) ?_
    refine v_icmp_ge (pc := 14) C 6 38 rfl (by decide) (fun c3 => ?_) (fun c3 => ?_)
    · replace h := g_ifT c3 h
      cases g_s1' h
      exact v_vret (pc := 38) C 20 rfl hr
    · replace h := g_ifF c3 h
      refine v_aload_n (pc := 17) C 7 0 rfl rfl rfl ?_
      obtain ⟨t4, qt4, h⟩ := g_bd h
      refine v_getR (pc := 18) C 8 rfl lf_ScopeGraph_Tape_9 (g_oB o1) rfl qt4 ?_
      refine v_aload_n (pc := 21) C 9 0 rfl rfl rfl ?_
      refine v_getI (pc := 22) C 10 rfl lf_ScopeGraph_Tape_15.get (g_oB o1) rfl ?_
      refine v_iload_n (pc := 25) C 11 1 rfl rfl rfl ?_
      refine v_i2b (pc := 26) C 12 rfl ?_
      obtain ⟨b5, h⟩ := g_okk h
      refine v_bast' (pc := 27) C 13 rfl b5 ?_
      refine v_topM (fun m6 em6 => ?_)
      replace h := g_nm h em6
      refine v_aload_n (pc := 28) C 14 0 rfl rfl rfl ?_
      refine v_dup (pc := 29) C 15 rfl rfl ?_
      refine v_getI (pc := 30) C 16 rfl lf_ScopeGraph_Tape_15.get (g_oB o1) rfl ?_
      refine v_iconst (pc := 33) C 17 1 rfl (by decide) ?_
      refine v_iadd (pc := 34) C 18 rfl ?_
      refine v_putI (pc := 35) C 19 rfl lf_ScopeGraph_Tape_15 (g_oB o1) rfl ?_
      refine v_topM (fun m7 em7 => ?_)
      replace h := g_nm h em7
      cases g_s1' h
      exact v_vret (pc := 38) C 20 rfl hr
theorem c_X5_add {l : Launch} {w : gW} {rm : gM} (hJ : gJok w) {F : Nat} {x0 : Nat} {x1 : Int32} {m : gM} (h : f_X5_add w.2.2.2.2.1 F x0 x1 m = some rm) : gMet l 0 yX5_add cX5_add 2 none w [.ref x0, .int x1] m none rm :=
  gMet.of hJ mf_X5_add dk_X5_add (Nat.le_of_ble_eq_true rfl) (fun X _ C hr => tf_X5_add (F := F) C hr h)
def f_X5_addFour (sh : List gS) (F : Nat) (x0 : Nat) (x1 : Int32) (m : gM) : Option (gM) :=
  g_if (oB sh x0 5) ((f_X5_add sh F x0 ((x1.toUInt32 >>> ((24 : Int32).toUInt32 &&& Int32.toUInt32 31)).toInt32) m).bind (fun m2 => (f_X5_add sh F x0 ((x1.toUInt32 >>> ((16 : Int32).toUInt32 &&& Int32.toUInt32 31)).toInt32) m2).bind (fun m4 => (f_X5_add sh F x0 ((x1.toUInt32 >>> ((8 : Int32).toUInt32 &&& Int32.toUInt32 31)).toInt32) m4).bind (fun m6 => (f_X5_add sh F x0 x1 m6).bind (fun m8 => some m8)))))
set_option maxRecDepth 100000 in
set_option maxHeartbeats 4000000 in
theorem tf_X5_addFour {X : gX} {w : gW} {rm : gM} (C : gC X w K_X5_addFour 2 RX5 1) (hr : X.2.2.2.2.2.2.2.2.1.sig.returnType = none) {F : Nat} {x0 : Nat} {x1 : Int32} {m : gM} (h : f_X5_addFour w.2.2.2.2.1 F x0 x1 m = some rm) : gV X w 0 0 (gR X w none rm) 2 0 [(0, .ref x0), (1, .int x1)] [] m := by
  unfold f_X5_addFour at h
  refine v_aload_n (pc := 0) C 0 0 rfl rfl rfl ?_
  refine v_iload_n (pc := 1) C 1 1 rfl rfl rfl ?_
  refine v_bipush (pc := 2) C 2 24 rfl (by decide) ?_
  refine v_iushr (pc := 4) C 3 rfl ?_
  obtain ⟨o1, h⟩ := g_okk h
  obtain ⟨m2, qm2, h⟩ := g_bd h
  refine v_callV (pc := 5) C 4 rfl mf_X5_add clX5 rfl im_X5_add lm_ScopeGraph_Tape_19 (c_X5_add C.2.2.2.2.2.2.2.2.2.2.2 qm2) (by decide) rfl (g_oB o1) (Nat.le_of_ble_eq_true rfl) ⟨Nat.zero_le _, Nat.zero_le _⟩ rfl ?_
  change gV X w 0 0 (gR X w none rm) 2 8 [(0, .ref x0), (1, .int x1)] [] m2
  refine v_aload_n (pc := 8) C 5 0 rfl rfl rfl ?_
  refine v_iload_n (pc := 9) C 6 1 rfl rfl rfl ?_
  refine v_bipush (pc := 10) C 7 16 rfl (by decide) ?_
  refine v_iushr (pc := 12) C 8 rfl ?_
  obtain ⟨m4, qm4, h⟩ := g_bd h
  refine v_callV (pc := 13) C 9 rfl mf_X5_add clX5 rfl im_X5_add lm_ScopeGraph_Tape_19 (c_X5_add C.2.2.2.2.2.2.2.2.2.2.2 qm4) (by decide) rfl (g_oB o1) (Nat.le_of_ble_eq_true rfl) ⟨Nat.zero_le _, Nat.zero_le _⟩ rfl ?_
  change gV X w 0 0 (gR X w none rm) 2 16 [(0, .ref x0), (1, .int x1)] [] m4
  refine v_aload_n (pc := 16) C 10 0 rfl rfl rfl ?_
  refine v_iload_n (pc := 17) C 11 1 rfl rfl rfl ?_
  refine v_bipush (pc := 18) C 12 8 rfl (by decide) ?_
  refine v_iushr (pc := 20) C 13 rfl ?_
  obtain ⟨m6, qm6, h⟩ := g_bd h
  refine v_callV (pc := 21) C 14 rfl mf_X5_add clX5 rfl im_X5_add lm_ScopeGraph_Tape_19 (c_X5_add C.2.2.2.2.2.2.2.2.2.2.2 qm6) (by decide) rfl (g_oB o1) (Nat.le_of_ble_eq_true rfl) ⟨Nat.zero_le _, Nat.zero_le _⟩ rfl ?_
  change gV X w 0 0 (gR X w none rm) 2 24 [(0, .ref x0), (1, .int x1)] [] m6
  refine v_aload_n (pc := 24) C 15 0 rfl rfl rfl ?_
  refine v_iload_n (pc := 25) C 16 1 rfl rfl rfl ?_
  obtain ⟨m8, qm8, h⟩ := g_bd h
  refine v_callV (pc := 26) C 17 rfl mf_X5_add clX5 rfl im_X5_add lm_ScopeGraph_Tape_19 (c_X5_add C.2.2.2.2.2.2.2.2.2.2.2 qm8) (by decide) rfl (g_oB o1) (Nat.le_of_ble_eq_true rfl) ⟨Nat.zero_le _, Nat.zero_le _⟩ rfl ?_
  change gV X w 0 0 (gR X w none rm) 2 29 [(0, .ref x0), (1, .int x1)] [] m8
  cases g_s1' h
  exact v_vret (pc := 29) C 18 rfl hr
theorem c_X5_addFour {l : Launch} {w : gW} {rm : gM} (hJ : gJok w) {F : Nat} {x0 : Nat} {x1 : Int32} {m : gM} (h : f_X5_addFour w.2.2.2.2.1 F x0 x1 m = some rm) : gMet l 1 yX5_addFour cX5_addFour 2 none w [.ref x0, .int x1] m none rm :=
  gMet.of hJ mf_X5_addFour dk_X5_addFour (Nat.le_of_ble_eq_true rfl) (fun X _ C hr => tf_X5_addFour (F := F) C hr h)
def b_X5_addName_3 (sh : List gS) (F : Nat) (k3 : Nat → Int64 → Int64 → Int32 → gM → Option (gM)) (x0 : Nat) (x1 : Int64) (x3 : Int64) (x5 : Int32) (m : gM) : Option (gM) :=
  if (12 : Int32) ≤ x5 then (some m) else ((f_X7_nameByte sh F x1 x3 x5 m).bind (fun q4 => nm q4.1 (fun r3 => nm q4.2 (fun m2 => if r3 = 0 then (some m2) else ((f_X7_nameByte sh F x1 x3 x5 m2).bind (fun q8 => nm q8.1 (fun r7 => nm q8.2 (fun m6 => g_if (oB sh x0 5) ((f_X5_add sh F x0 r7 m6).bind (fun m10 => nm (x5 + Int32.ofInt 1) (fun v12 => k3 x0 x1 x3 v12 m10)))))))))))
set_option maxRecDepth 100000 in
set_option maxHeartbeats 4000000 in
theorem tb_X5_addName_3 {X : gX} {w : gW} {rm : gM} (C : gC X w K_X5_addName 6 RX5 1) (hr : X.2.2.2.2.2.2.2.2.1.sig.returnType = none) {F : Nat} {k3 : Nat → Int64 → Int64 → Int32 → gM → Option (gM)} (hk3 : ∀ (z0 : Nat) (z1 : Int64) (z3 : Int64) (z5 : Int32) (m : gM), k3 z0 z1 z3 z5 m = some rm → gV X w 0 0 (gR X w none rm) 6 3 [(0, .ref z0), (1, .long z1), (3, .long z3), (5, .int z5)] [] m) {x0 : Nat} {x1 : Int64} {x3 : Int64} {x5 : Int32} {m : gM} (h : b_X5_addName_3 w.2.2.2.2.1 F k3 x0 x1 x3 x5 m = some rm) : gV X w 0 0 (gR X w none rm) 6 3 [(0, .ref x0), (1, .long x1), (3, .long x3), (5, .int x5)] [] m := by
  unfold b_X5_addName_3 at h
  refine v_iload (pc := 3) C 2 3 rfl rfl ?_
  refine v_bipush (pc := 5) C 3 12 rfl (by decide) ?_
  refine v_icmp_ge (pc := 7) C 4 37 rfl (by decide) (fun c1 => ?_) (fun c1 => ?_)
  · replace h := g_ifT c1 h
    cases g_s1' h
    exact v_vret (pc := 37) C 18 rfl hr
  · replace h := g_ifF c1 h
    refine v_lload_n (pc := 10) C 5 1 rfl rfl rfl ?_
    refine v_lload_n (pc := 11) C 6 2 rfl rfl rfl ?_
    refine v_iload (pc := 12) C 7 3 rfl rfl ?_
    obtain ⟨⟨r3, m2⟩, qm2, h⟩ := g_bd h
    replace h := g_nm (y := m2) (g_nm (y := r3) h rfl) rfl
    refine v_callS (pc := 14) C 8 rfl mf_X7_nameByte sm_X7_nameByte lm_ScopeGraph_Tape_23 (c_X7_nameByte C.2.2.2.2.2.2.2.2.2.2.2 qm2) (by decide) rfl (Nat.le_of_ble_eq_true rfl) ⟨Nat.zero_le _, Nat.zero_le _⟩ rfl ?_
    change gV X w 0 0 (gR X w none rm) 6 17 [(0, .ref x0), (1, .long x1), (3, .long x3), (5, .int x5)] [.int r3] m2
    refine v_if_eq (pc := 17) C 9 37 rfl (by decide) (fun c5 => ?_) (fun c5 => ?_)
    · replace h := g_ifT c5 h
      cases g_s1' h
      exact v_vret (pc := 37) C 18 rfl hr
    · replace h := g_ifF c5 h
      refine v_aload_n (pc := 20) C 10 0 rfl rfl rfl ?_
      refine v_lload_n (pc := 21) C 11 1 rfl rfl rfl ?_
      refine v_lload_n (pc := 22) C 12 2 rfl rfl rfl ?_
      refine v_iload (pc := 23) C 13 3 rfl rfl ?_
      obtain ⟨⟨r7, m6⟩, qm6, h⟩ := g_bd h
      replace h := g_nm (y := m6) (g_nm (y := r7) h rfl) rfl
      refine v_callS (pc := 25) C 14 rfl mf_X7_nameByte sm_X7_nameByte lm_ScopeGraph_Tape_23 (c_X7_nameByte C.2.2.2.2.2.2.2.2.2.2.2 qm6) (by decide) rfl (Nat.le_of_ble_eq_true rfl) ⟨Nat.zero_le _, Nat.zero_le _⟩ rfl ?_
      change gV X w 0 0 (gR X w none rm) 6 28 [(0, .ref x0), (1, .long x1), (3, .long x3), (5, .int x5)] [.int r7, .ref x0] m6
      obtain ⟨o9, h⟩ := g_okk h
      obtain ⟨m10, qm10, h⟩ := g_bd h
      refine v_callV (pc := 28) C 15 rfl mf_X5_add clX5 rfl im_X5_add lm_ScopeGraph_Tape_19 (c_X5_add C.2.2.2.2.2.2.2.2.2.2.2 qm10) (by decide) rfl (g_oB o9) (Nat.le_of_ble_eq_true rfl) ⟨Nat.zero_le _, Nat.zero_le _⟩ rfl ?_
      change gV X w 0 0 (gR X w none rm) 6 31 [(0, .ref x0), (1, .long x1), (3, .long x3), (5, .int x5)] [] m10
      refine v_iincN (pc := 31) C 16 3 (fun v12 => [(5, .int v12), (0, .ref x0), (1, .long x1), (3, .long x3)]) rfl rfl (by decide) (fun _ => rfl) (fun v12 ev12 => ?_)
      replace h := g_nm h ev12
      refine v_goto (pc := 34) C 17 3 rfl (by decide) ?_
      refine v_sub [(0, .ref x0), (1, .long x1), (3, .long x3), (5, .int v12)] [1, 2, 3, 0] rfl ?_
      exact hk3 _ _ _ _ _ h
def l_X5_addName_3 (sh : List gS) (F : Nat) : Nat → Nat → Int64 → Int64 → Int32 → gM → Option (gM)
  | 0 => fun _ _ _ _ _ => none
  | n + 1 => fun x0 x1 x3 x5 m => b_X5_addName_3 sh F (l_X5_addName_3 sh F n) x0 x1 x3 x5 m
theorem tl_X5_addName_3 {X : gX} {w : gW} {rm : gM} (C : gC X w K_X5_addName 6 RX5 1) (hr : X.2.2.2.2.2.2.2.2.1.sig.returnType = none) {F : Nat} : ∀ (n : Nat) (x0 : Nat) (x1 : Int64) (x3 : Int64) (x5 : Int32) (m : gM), l_X5_addName_3 w.2.2.2.2.1 F n x0 x1 x3 x5 m = some rm → gV X w 0 0 (gR X w none rm) 6 3 [(0, .ref x0), (1, .long x1), (3, .long x3), (5, .int x5)] [] m := by
  intro n
  induction n with
  | zero => intro x0 x1 x3 x5 m h; cases h
  | succ n ih => intro x0 x1 x3 x5 m h; exact tb_X5_addName_3 (F := F) C hr ih h
def f_X5_addName (sh : List gS) (F : Nat) (x0 : Nat) (x1 : Int64) (x3 : Int64) (m : gM) : Option (gM) :=
  l_X5_addName_3 sh F F x0 x1 x3 0 m
set_option maxRecDepth 100000 in
set_option maxHeartbeats 4000000 in
theorem tf_X5_addName {X : gX} {w : gW} {rm : gM} (C : gC X w K_X5_addName 6 RX5 1) (hr : X.2.2.2.2.2.2.2.2.1.sig.returnType = none) {F : Nat} {x0 : Nat} {x1 : Int64} {x3 : Int64} {m : gM} (h : f_X5_addName w.2.2.2.2.1 F x0 x1 x3 m = some rm) : gV X w 0 0 (gR X w none rm) 6 0 [(0, .ref x0), (1, .long x1), (3, .long x3)] [] m := by
  unfold f_X5_addName at h
  refine v_iconst (pc := 0) C 0 0 rfl (by decide) ?_
  refine v_istore (pc := 1) (lv' := [(5, .int 0), (0, .ref x0), (1, .long x1), (3, .long x3)]) C 1 rfl (by decide) rfl ?_
  refine v_sub [(0, .ref x0), (1, .long x1), (3, .long x3), (5, .int 0)] [1, 2, 3, 0] rfl ?_
  exact tl_X5_addName_3 (F := F) C hr _ _ _ _ _ _ h
theorem c_X5_addName {l : Launch} {w : gW} {rm : gM} (hJ : gJok w) {F : Nat} {x0 : Nat} {x1 : Int64} {x3 : Int64} {m : gM} (h : f_X5_addName w.2.2.2.2.1 F x0 x1 x3 m = some rm) : gMet l 1 yX5_addName cX5_addName 6 none w [.ref x0, .long x1, .long x3] m none rm :=
  gMet.of hJ mf_X5_addName dk_X5_addName (Nat.le_of_ble_eq_true rfl) (fun X _ C hr => tf_X5_addName (F := F) C hr h)
def f_X7_swapTapes (sh : List gS) (F : Nat) (x0 : Nat) (m : gM) : Option (gM) :=
  g_if (oB sh x0 7) ((m.2.2 x0 1).bind (fun t2 => (m.2.2 x0 0).bind (fun t3 => nm (gsR m x0 1 (some t3)) (fun m4 => nm (gsR m4 x0 0 (some t2)) (fun m5 => some m5)))))
set_option maxRecDepth 100000 in
set_option maxHeartbeats 4000000 in
theorem tf_X7_swapTapes {X : gX} {w : gW} {rm : gM} (C : gC X w K_X7_swapTapes 2 RX7 0) (hr : X.2.2.2.2.2.2.2.2.1.sig.returnType = none) {F : Nat} {x0 : Nat} {m : gM} (h : f_X7_swapTapes w.2.2.2.2.1 F x0 m = some rm) : gV X w 0 0 (gR X w none rm) 2 0 [(0, .ref x0)] [] m := by
  unfold f_X7_swapTapes at h
  refine v_aload_n (pc := 0) C 0 0 rfl rfl rfl ?_
  obtain ⟨o1, h⟩ := g_okk h
  obtain ⟨t2, qt2, h⟩ := g_bd h
  refine v_getR (pc := 1) C 1 rfl lf_ScopeGraph_16.get (g_oB o1) rfl qt2 ?_
  refine v_astore_n (pc := 4) (lv' := [(1, .ref t2), (0, .ref x0)]) C 2 rfl rfl (by decide) rfl ?_
  refine v_aload_n (pc := 5) C 3 1 rfl rfl rfl ?_
  refine v_aload_n (pc := 6) C 4 1 rfl rfl rfl ?_
  obtain ⟨t3, qt3, h⟩ := g_bd h
  refine v_getR (pc := 7) C 5 rfl lf_ScopeGraph_10.get (g_oB o1) rfl qt3 ?_
  refine v_putR (pc := 10) C 6 rfl lf_ScopeGraph_16 (g_oB o1) rfl ?_
  refine v_topM (fun m4 em4 => ?_)
  replace h := g_nm h em4
  refine v_aload_n (pc := 13) C 7 1 rfl rfl rfl ?_
  refine v_aload_n (pc := 14) C 8 0 rfl rfl rfl ?_
  refine v_putR (pc := 15) C 9 rfl lf_ScopeGraph_10 (g_oB o1) rfl ?_
  refine v_topM (fun m5 em5 => ?_)
  replace h := g_nm h em5
  cases g_s1' h
  exact v_vret (pc := 18) C 10 rfl hr
theorem c_X7_swapTapes {l : Launch} {w : gW} {rm : gM} (hJ : gJok w) {F : Nat} {x0 : Nat} {m : gM} (h : f_X7_swapTapes w.2.2.2.2.1 F x0 m = some rm) : gMet l 0 yX7_swapTapes cX7_swapTapes 2 none w [.ref x0] m none rm :=
  gMet.of hJ mf_X7_swapTapes dk_X7_swapTapes (Nat.le_of_ble_eq_true rfl) (fun X _ C hr => tf_X7_swapTapes (F := F) C hr h)
def f_X7_fault (sh : List gS) (F : Nat) (x0 : Nat) (m : gM) : Option (Int32 × gM) :=
  g_if (oB sh x0 7) (some (m.1 x0 8, m))
set_option maxRecDepth 100000 in
set_option maxHeartbeats 4000000 in
theorem tf_X7_fault {X : gX} {w : gW} {rr : Int32} {rm : gM} (C : gC X w K_X7_fault 1 RX7 0) (hr : X.2.2.2.2.2.2.2.2.1.sig.returnType = (some .int)) {F : Nat} {x0 : Nat} {m : gM} (h : f_X7_fault w.2.2.2.2.1 F x0 m = some (rr, rm)) : gV X w 0 0 (gR X w (some (.int rr)) rm) 1 0 [(0, .ref x0)] [] m := by
  unfold f_X7_fault at h
  refine v_aload_n (pc := 0) C 0 0 rfl rfl rfl ?_
  obtain ⟨o1, h⟩ := g_okk h
  refine v_getI (pc := 1) C 1 rfl lf_ScopeGraph_57.get (g_oB o1) rfl ?_
  obtain ⟨rfl, rfl⟩ := g_so h
  exact v_iret (pc := 4) C 2 rfl hr
theorem c_X7_fault {l : Launch} {w : gW} {rr : Int32} {rm : gM} (hJ : gJok w) {F : Nat} {x0 : Nat} {m : gM} (h : f_X7_fault w.2.2.2.2.1 F x0 m = some (rr, rm)) : gMet l 0 yX7_fault cX7_fault 1 (some .int) w [.ref x0] m (some (.int rr)) rm :=
  gMet.of hJ mf_X7_fault dk_X7_fault (Nat.le_of_ble_eq_true rfl) (fun X _ C hr => tf_X7_fault (F := F) C hr h)
def b_X7_writeNewText_218 (sh : List gS) (F : Nat) (k38 : Nat → Int64 → Int32 → Nat → Nat → Nat → Int32 → Int32 → Int32 → Int32 → gM → Option (gM)) (x0 : Nat) (x1 : Int64) (x3 : Int32) (x4 : Nat) (x5 : Nat) (x6 : Nat) (x7 : Int32) (x8 : Int32) (x9 : Int32) (x10 : Int32) (m : gM) : Option (gM) :=
  nm (x10 + Int32.ofInt 1) (fun v1 => k38 x0 x1 x3 x4 x5 x6 x7 x8 x9 v1 m)
set_option maxRecDepth 100000 in
set_option maxHeartbeats 4000000 in
theorem tb_X7_writeNewText_218 {X : gX} {w : gW} {rm : gM} (C : gC X w K_X7_writeNewText 12 RX7 2) (hr : X.2.2.2.2.2.2.2.2.1.sig.returnType = none) {F : Nat} {k38 : Nat → Int64 → Int32 → Nat → Nat → Nat → Int32 → Int32 → Int32 → Int32 → gM → Option (gM)} (hk38 : ∀ (z0 : Nat) (z1 : Int64) (z3 : Int32) (z4 : Nat) (z5 : Nat) (z6 : Nat) (z7 : Int32) (z8 : Int32) (z9 : Int32) (z10 : Int32) (m : gM), k38 z0 z1 z3 z4 z5 z6 z7 z8 z9 z10 m = some rm → gV X w 0 0 (gR X w none rm) 12 38 [(0, .ref z0), (1, .long z1), (3, .int z3), (4, .ref z4), (5, .ref z5), (6, .ref z6), (7, .int z7), (8, .int z8), (9, .int z9), (10, .int z10)] [] m) {x0 : Nat} {x1 : Int64} {x3 : Int32} {x4 : Nat} {x5 : Nat} {x6 : Nat} {x7 : Int32} {x8 : Int32} {x9 : Int32} {x10 : Int32} {m : gM} (h : b_X7_writeNewText_218 w.2.2.2.2.1 F k38 x0 x1 x3 x4 x5 x6 x7 x8 x9 x10 m = some rm) : gV X w 0 0 (gR X w none rm) 12 218 [(0, .ref x0), (1, .long x1), (3, .int x3), (4, .ref x4), (5, .ref x5), (6, .ref x6), (7, .int x7), (8, .int x8), (9, .int x9), (10, .int x10)] [] m := by
  unfold b_X7_writeNewText_218 at h
  refine v_iincN (pc := 218) C 106 9 (fun v1 => [(10, .int v1), (0, .ref x0), (1, .long x1), (3, .int x3), (4, .ref x4), (5, .ref x5), (6, .ref x6), (7, .int x7), (8, .int x8), (9, .int x9)]) rfl rfl (by decide) (fun _ => rfl) (fun v1 ev1 => ?_)
  replace h := g_nm h ev1
  refine v_goto (pc := 221) C 107 38 rfl (by decide) ?_
  refine v_sub [(0, .ref x0), (1, .long x1), (3, .int x3), (4, .ref x4), (5, .ref x5), (6, .ref x6), (7, .int x7), (8, .int x8), (9, .int x9), (10, .int v1)] [1, 2, 3, 4, 5, 6, 7, 8, 9, 0] rfl ?_
  exact hk38 _ _ _ _ _ _ _ _ _ _ _ h
def b_X7_writeNewText_164 (sh : List gS) (F : Nat) (k38 : Nat → Int64 → Int32 → Nat → Nat → Nat → Int32 → Int32 → Int32 → Int32 → gM → Option (gM)) (x0 : Nat) (x1 : Int64) (x3 : Int32) (x4 : Nat) (x5 : Nat) (x6 : Nat) (x7 : Int32) (x8 : Int32) (x9 : Int32) (x10 : Int32) (x11 : Int32) (m : gM) : Option (gM) :=
  if x11 = 0 then (if x10 < x9 then (b_X7_writeNewText_218 sh F k38 x0 x1 x3 x4 x5 x6 x7 x8 x9 x10 m) else (g_if (oB sh x0 7) ((m.2.2 x0 0).bind (fun t4 => (m.2.2 x0 1).bind (fun t5 => g_if (oB sh t5 5) ((f_X5_at sh F t5 x10 m).bind (fun q9 => nm q9.1 (fun r8 => nm q9.2 (fun m7 => g_if (oB sh t4 5) ((f_X5_add sh F t4 r8 m7).bind (fun m11 => b_X7_writeNewText_218 sh F k38 x0 x1 x3 x4 x5 x6 x7 x8 x9 x10 m11))))))))))) else (g_if (oB sh x0 7) ((m.2.2 x0 0).bind (fun t14 => g_if (oB sh x4 6) (g_if (oB sh t14 5) ((f_X5_addName sh F t14 (m.2.1 x4 3) (m.2.1 x4 4) m).bind (fun m17 => nm (x10 + x3) (fun v19 => b_X7_writeNewText_218 sh F k38 x0 x1 x3 x4 x5 x6 x7 x8 v19 x10 m17)))))))
set_option maxRecDepth 100000 in
set_option maxHeartbeats 4000000 in
theorem tb_X7_writeNewText_164 {X : gX} {w : gW} {rm : gM} (C : gC X w K_X7_writeNewText 12 RX7 2) (hr : X.2.2.2.2.2.2.2.2.1.sig.returnType = none) {F : Nat} {k38 : Nat → Int64 → Int32 → Nat → Nat → Nat → Int32 → Int32 → Int32 → Int32 → gM → Option (gM)} (hk38 : ∀ (z0 : Nat) (z1 : Int64) (z3 : Int32) (z4 : Nat) (z5 : Nat) (z6 : Nat) (z7 : Int32) (z8 : Int32) (z9 : Int32) (z10 : Int32) (m : gM), k38 z0 z1 z3 z4 z5 z6 z7 z8 z9 z10 m = some rm → gV X w 0 0 (gR X w none rm) 12 38 [(0, .ref z0), (1, .long z1), (3, .int z3), (4, .ref z4), (5, .ref z5), (6, .ref z6), (7, .int z7), (8, .int z8), (9, .int z9), (10, .int z10)] [] m) {x0 : Nat} {x1 : Int64} {x3 : Int32} {x4 : Nat} {x5 : Nat} {x6 : Nat} {x7 : Int32} {x8 : Int32} {x9 : Int32} {x10 : Int32} {x11 : Int32} {m : gM} (h : b_X7_writeNewText_164 w.2.2.2.2.1 F k38 x0 x1 x3 x4 x5 x6 x7 x8 x9 x10 x11 m = some rm) : gV X w 0 0 (gR X w none rm) 12 164 [(0, .ref x0), (1, .long x1), (3, .int x3), (4, .ref x4), (5, .ref x5), (6, .ref x6), (7, .int x7), (8, .int x8), (9, .int x9), (10, .int x10), (11, .int x11)] [] m := by
  unfold b_X7_writeNewText_164 at h
  refine v_iload (pc := 164) C 82 10 rfl rfl ?_
  refine v_if_eq (pc := 166) C 83 195 rfl (by decide) (fun c1 => ?_) (fun c1 => ?_)
  · replace h := g_ifT c1 h
    refine v_iload (pc := 195) C 96 9 rfl rfl ?_
    refine v_iload (pc := 197) C 97 8 rfl rfl ?_
    refine v_icmp_lt (pc := 199) C 98 218 rfl (by decide) (fun c2 => ?_) (fun c2 => ?_)
    · replace h := g_ifT c2 h
      refine v_sub [(0, .ref x0), (1, .long x1), (3, .int x3), (4, .ref x4), (5, .ref x5), (6, .ref x6), (7, .int x7), (8, .int x8), (9, .int x9), (10, .int x10)] [0, 1, 2, 3, 4, 5, 6, 7, 8, 9] rfl ?_
      exact tb_X7_writeNewText_218 (F := F) C hr hk38 h
    · replace h := g_ifF c2 h
      refine v_aload_n (pc := 202) C 99 0 rfl rfl rfl ?_
      obtain ⟨o3, h⟩ := g_okk h
      obtain ⟨t4, qt4, h⟩ := g_bd h
      refine v_getR (pc := 203) C 100 rfl lf_ScopeGraph_10.get (g_oB o3) rfl qt4 ?_
      refine v_aload_n (pc := 206) C 101 0 rfl rfl rfl ?_
      obtain ⟨t5, qt5, h⟩ := g_bd h
      refine v_getR (pc := 207) C 102 rfl lf_ScopeGraph_16.get (g_oB o3) rfl qt5 ?_
      refine v_iload (pc := 210) C 103 9 rfl rfl ?_
      obtain ⟨o6, h⟩ := g_okk h
      obtain ⟨⟨r8, m7⟩, qm7, h⟩ := g_bd h
      replace h := g_nm (y := m7) (g_nm (y := r8) h rfl) rfl
      refine v_callV (pc := 212) C 104 rfl mf_X5_at clX5 rfl im_X5_at lm_ScopeGraph_219 (c_X5_at C.2.2.2.2.2.2.2.2.2.2.2 qm7) (by decide) rfl (g_oB o6) (Nat.le_of_ble_eq_true rfl) ⟨Nat.zero_le _, Nat.zero_le _⟩ rfl ?_
      change gV X w 0 0 (gR X w none rm) 12 215 [(0, .ref x0), (1, .long x1), (3, .int x3), (4, .ref x4), (5, .ref x5), (6, .ref x6), (7, .int x7), (8, .int x8), (9, .int x9), (10, .int x10), (11, .int x11)] [.int r8, .ref t4] m7
      obtain ⟨o10, h⟩ := g_okk h
      obtain ⟨m11, qm11, h⟩ := g_bd h
      refine v_callV (pc := 215) C 105 rfl mf_X5_add clX5 rfl im_X5_add lm_ScopeGraph_241 (c_X5_add C.2.2.2.2.2.2.2.2.2.2.2 qm11) (by decide) rfl (g_oB o10) (Nat.le_of_ble_eq_true rfl) ⟨Nat.zero_le _, Nat.zero_le _⟩ rfl ?_
      change gV X w 0 0 (gR X w none rm) 12 218 [(0, .ref x0), (1, .long x1), (3, .int x3), (4, .ref x4), (5, .ref x5), (6, .ref x6), (7, .int x7), (8, .int x8), (9, .int x9), (10, .int x10), (11, .int x11)] [] m11
      refine v_sub [(0, .ref x0), (1, .long x1), (3, .int x3), (4, .ref x4), (5, .ref x5), (6, .ref x6), (7, .int x7), (8, .int x8), (9, .int x9), (10, .int x10)] [0, 1, 2, 3, 4, 5, 6, 7, 8, 9] rfl ?_
      exact tb_X7_writeNewText_218 (F := F) C hr hk38 h
  · replace h := g_ifF c1 h
    refine v_aload_n (pc := 169) C 84 0 rfl rfl rfl ?_
    obtain ⟨o13, h⟩ := g_okk h
    obtain ⟨t14, qt14, h⟩ := g_bd h
    refine v_getR (pc := 170) C 85 rfl lf_ScopeGraph_10.get (g_oB o13) rfl qt14 ?_
    refine v_aload (pc := 173) C 86 3 rfl rfl ?_
    obtain ⟨o15, h⟩ := g_okk h
    refine v_getL (pc := 175) C 87 rfl lf_ScopeGraph_230.get (g_oB o15) rfl ?_
    refine v_aload (pc := 178) C 88 3 rfl rfl ?_
    refine v_getL (pc := 180) C 89 rfl lf_ScopeGraph_234.get (g_oB o15) rfl ?_
    obtain ⟨o16, h⟩ := g_okk h
    obtain ⟨m17, qm17, h⟩ := g_bd h
    refine v_callV (pc := 183) C 90 rfl mf_X5_addName clX5 rfl im_X5_addName lm_ScopeGraph_237 (c_X5_addName C.2.2.2.2.2.2.2.2.2.2.2 qm17) (by decide) rfl (g_oB o16) (Nat.le_of_ble_eq_true rfl) ⟨Nat.zero_le _, Nat.zero_le _⟩ rfl ?_
    change gV X w 0 0 (gR X w none rm) 12 186 [(0, .ref x0), (1, .long x1), (3, .int x3), (4, .ref x4), (5, .ref x5), (6, .ref x6), (7, .int x7), (8, .int x8), (9, .int x9), (10, .int x10), (11, .int x11)] [] m17
    refine v_iload (pc := 186) C 91 9 rfl rfl ?_
    refine v_iload_n (pc := 188) C 92 2 rfl rfl rfl ?_
    refine v_iadd (pc := 189) C 93 rfl ?_
    refine v_topI (fun v19 ev19 => ?_)
    replace h := g_nm h ev19
    refine v_istore (pc := 190) (lv' := [(9, .int v19), (0, .ref x0), (1, .long x1), (3, .int x3), (4, .ref x4), (5, .ref x5), (6, .ref x6), (7, .int x7), (8, .int x8), (10, .int x10), (11, .int x11)]) C 94 rfl (by decide) rfl ?_
    refine v_goto (pc := 192) C 95 218 rfl (by decide) ?_
    refine v_sub [(0, .ref x0), (1, .long x1), (3, .int x3), (4, .ref x4), (5, .ref x5), (6, .ref x6), (7, .int x7), (8, .int x8), (9, .int v19), (10, .int x10)] [1, 2, 3, 4, 5, 6, 7, 8, 0, 9] rfl ?_
    exact tb_X7_writeNewText_218 (F := F) C hr hk38 h
def b_X7_writeNewText_141 (sh : List gS) (F : Nat) (k38 : Nat → Int64 → Int32 → Nat → Nat → Nat → Int32 → Int32 → Int32 → Int32 → gM → Option (gM)) (x0 : Nat) (x1 : Int64) (x3 : Int32) (x4 : Nat) (x5 : Nat) (x6 : Nat) (x7 : Int32) (x8 : Int32) (x9 : Int32) (x10 : Int32) (y0 : Int32) (m : gM) : Option (gM) :=
  g_if (oB sh x0 7) ((m.2.2 x0 0).bind (fun t2 => g_if (oB sh t2 5) (g_if (oB sh x6 0) ((f_X0_move sh F x6 x8 (m.1 t2 1) y0 x4 m).bind (fun m5 => nm (x8 + Int32.ofInt 1) (fun v7 => b_X7_writeNewText_164 sh F k38 x0 x1 x3 x4 x5 x6 x7 v7 x9 x10 y0 m5))))))
set_option maxRecDepth 100000 in
set_option maxHeartbeats 4000000 in
theorem tb_X7_writeNewText_141 {X : gX} {w : gW} {rm : gM} (C : gC X w K_X7_writeNewText 12 RX7 2) (hr : X.2.2.2.2.2.2.2.2.1.sig.returnType = none) {F : Nat} {k38 : Nat → Int64 → Int32 → Nat → Nat → Nat → Int32 → Int32 → Int32 → Int32 → gM → Option (gM)} (hk38 : ∀ (z0 : Nat) (z1 : Int64) (z3 : Int32) (z4 : Nat) (z5 : Nat) (z6 : Nat) (z7 : Int32) (z8 : Int32) (z9 : Int32) (z10 : Int32) (m : gM), k38 z0 z1 z3 z4 z5 z6 z7 z8 z9 z10 m = some rm → gV X w 0 0 (gR X w none rm) 12 38 [(0, .ref z0), (1, .long z1), (3, .int z3), (4, .ref z4), (5, .ref z5), (6, .ref z6), (7, .int z7), (8, .int z8), (9, .int z9), (10, .int z10)] [] m) {x0 : Nat} {x1 : Int64} {x3 : Int32} {x4 : Nat} {x5 : Nat} {x6 : Nat} {x7 : Int32} {x8 : Int32} {x9 : Int32} {x10 : Int32} {y0 : Int32} {m : gM} (h : b_X7_writeNewText_141 w.2.2.2.2.1 F k38 x0 x1 x3 x4 x5 x6 x7 x8 x9 x10 y0 m = some rm) : gV X w 0 0 (gR X w none rm) 12 141 [(0, .ref x0), (1, .long x1), (3, .int x3), (4, .ref x4), (5, .ref x5), (6, .ref x6), (7, .int x7), (8, .int x8), (9, .int x9), (10, .int x10)] [.int y0] m := by
  unfold b_X7_writeNewText_141 at h
  refine v_istore (pc := 141) (lv' := [(11, .int y0), (0, .ref x0), (1, .long x1), (3, .int x3), (4, .ref x4), (5, .ref x5), (6, .ref x6), (7, .int x7), (8, .int x8), (9, .int x9), (10, .int x10)]) C 72 rfl (by decide) rfl ?_
  refine v_aload (pc := 143) C 73 6 rfl rfl ?_
  refine v_iload (pc := 145) C 74 8 rfl rfl ?_
  refine v_aload_n (pc := 147) C 75 1 rfl rfl rfl ?_
  obtain ⟨o1, h⟩ := g_okk h
  obtain ⟨t2, qt2, h⟩ := g_bd h
  refine v_getR (pc := 148) C 76 rfl lf_ScopeGraph_10.get (g_oB o1) rfl qt2 ?_
  obtain ⟨o3, h⟩ := g_okk h
  refine v_getI (pc := 151) C 77 rfl lf_ScopeGraph_61.get (g_oB o3) rfl ?_
  refine v_iload (pc := 154) C 78 0 rfl rfl ?_
  refine v_aload (pc := 156) C 79 4 rfl rfl ?_
  obtain ⟨o4, h⟩ := g_okk h
  obtain ⟨m5, qm5, h⟩ := g_bd h
  refine v_callV (pc := 158) C 80 rfl mf_X0_move clX0 rfl im_X0_move lm_ScopeGraph_226 (c_X0_move C.2.2.2.2.2.2.2.2.2.2.2 qm5) (by decide) rfl (g_oB o4) (Nat.le_of_ble_eq_true rfl) ⟨Nat.zero_le _, Nat.zero_le _⟩ rfl ?_
  change gV X w 0 0 (gR X w none rm) 12 161 [(11, .int y0), (0, .ref x0), (1, .long x1), (3, .int x3), (4, .ref x4), (5, .ref x5), (6, .ref x6), (7, .int x7), (8, .int x8), (9, .int x9), (10, .int x10)] [] m5
  refine v_iincN (pc := 161) C 81 8 (fun v7 => [(8, .int v7), (11, .int y0), (0, .ref x0), (1, .long x1), (3, .int x3), (4, .ref x4), (5, .ref x5), (6, .ref x6), (7, .int x7), (9, .int x9), (10, .int x10)]) rfl rfl (by decide) (fun _ => rfl) (fun v7 ev7 => ?_)
  replace h := g_nm h ev7
  refine v_sub [(0, .ref x0), (1, .long x1), (3, .int x3), (4, .ref x4), (5, .ref x5), (6, .ref x6), (7, .int x7), (8, .int v7), (9, .int x9), (10, .int x10), (11, .int y0)] [2, 3, 4, 5, 6, 7, 8, 0, 9, 10, 1] rfl ?_
  exact tb_X7_writeNewText_164 (F := F) C hr hk38 h
def b_X7_writeNewText_81 (sh : List gS) (F : Nat) (k38 : Nat → Int64 → Int32 → Nat → Nat → Nat → Int32 → Int32 → Int32 → Int32 → gM → Option (gM)) (x0 : Nat) (x1 : Int64) (x3 : Int32) (x4 : Nat) (x5 : Nat) (x6 : Nat) (x7 : Int32) (x8 : Int32) (x9 : Int32) (x10 : Int32) (y0 : Int32) (m : gM) : Option (gM) :=
  g_if (oB sh x0 7) ((m.2.2 x0 0).bind (fun t2 => g_if (oB sh t2 5) (g_if (oB sh x5 0) ((f_X0_move sh F x5 x7 (m.1 t2 1) y0 x4 m).bind (fun m5 => nm (x7 + Int32.ofInt 1) (fun v7 => b_X7_writeNewText_164 sh F k38 x0 x1 x3 x4 x5 x6 v7 x8 x9 x10 y0 m5))))))
set_option maxRecDepth 100000 in
set_option maxHeartbeats 4000000 in
theorem tb_X7_writeNewText_81 {X : gX} {w : gW} {rm : gM} (C : gC X w K_X7_writeNewText 12 RX7 2) (hr : X.2.2.2.2.2.2.2.2.1.sig.returnType = none) {F : Nat} {k38 : Nat → Int64 → Int32 → Nat → Nat → Nat → Int32 → Int32 → Int32 → Int32 → gM → Option (gM)} (hk38 : ∀ (z0 : Nat) (z1 : Int64) (z3 : Int32) (z4 : Nat) (z5 : Nat) (z6 : Nat) (z7 : Int32) (z8 : Int32) (z9 : Int32) (z10 : Int32) (m : gM), k38 z0 z1 z3 z4 z5 z6 z7 z8 z9 z10 m = some rm → gV X w 0 0 (gR X w none rm) 12 38 [(0, .ref z0), (1, .long z1), (3, .int z3), (4, .ref z4), (5, .ref z5), (6, .ref z6), (7, .int z7), (8, .int z8), (9, .int z9), (10, .int z10)] [] m) {x0 : Nat} {x1 : Int64} {x3 : Int32} {x4 : Nat} {x5 : Nat} {x6 : Nat} {x7 : Int32} {x8 : Int32} {x9 : Int32} {x10 : Int32} {y0 : Int32} {m : gM} (h : b_X7_writeNewText_81 w.2.2.2.2.1 F k38 x0 x1 x3 x4 x5 x6 x7 x8 x9 x10 y0 m = some rm) : gV X w 0 0 (gR X w none rm) 12 81 [(0, .ref x0), (1, .long x1), (3, .int x3), (4, .ref x4), (5, .ref x5), (6, .ref x6), (7, .int x7), (8, .int x8), (9, .int x9), (10, .int x10)] [.int y0] m := by
  unfold b_X7_writeNewText_81 at h
  refine v_istore (pc := 81) (lv' := [(11, .int y0), (0, .ref x0), (1, .long x1), (3, .int x3), (4, .ref x4), (5, .ref x5), (6, .ref x6), (7, .int x7), (8, .int x8), (9, .int x9), (10, .int x10)]) C 43 rfl (by decide) rfl ?_
  refine v_aload (pc := 83) C 44 5 rfl rfl ?_
  refine v_iload (pc := 85) C 45 7 rfl rfl ?_
  refine v_aload_n (pc := 87) C 46 1 rfl rfl rfl ?_
  obtain ⟨o1, h⟩ := g_okk h
  obtain ⟨t2, qt2, h⟩ := g_bd h
  refine v_getR (pc := 88) C 47 rfl lf_ScopeGraph_10.get (g_oB o1) rfl qt2 ?_
  obtain ⟨o3, h⟩ := g_okk h
  refine v_getI (pc := 91) C 48 rfl lf_ScopeGraph_61.get (g_oB o3) rfl ?_
  refine v_iload (pc := 94) C 49 0 rfl rfl ?_
  refine v_aload (pc := 96) C 50 4 rfl rfl ?_
  obtain ⟨o4, h⟩ := g_okk h
  obtain ⟨m5, qm5, h⟩ := g_bd h
  refine v_callV (pc := 98) C 51 rfl mf_X0_move clX0 rfl im_X0_move lm_ScopeGraph_226 (c_X0_move C.2.2.2.2.2.2.2.2.2.2.2 qm5) (by decide) rfl (g_oB o4) (Nat.le_of_ble_eq_true rfl) ⟨Nat.zero_le _, Nat.zero_le _⟩ rfl ?_
  change gV X w 0 0 (gR X w none rm) 12 101 [(11, .int y0), (0, .ref x0), (1, .long x1), (3, .int x3), (4, .ref x4), (5, .ref x5), (6, .ref x6), (7, .int x7), (8, .int x8), (9, .int x9), (10, .int x10)] [] m5
  refine v_iincN (pc := 101) C 52 7 (fun v7 => [(7, .int v7), (11, .int y0), (0, .ref x0), (1, .long x1), (3, .int x3), (4, .ref x4), (5, .ref x5), (6, .ref x6), (8, .int x8), (9, .int x9), (10, .int x10)]) rfl rfl (by decide) (fun _ => rfl) (fun v7 ev7 => ?_)
  replace h := g_nm h ev7
  refine v_goto (pc := 104) C 53 164 rfl (by decide) ?_
  refine v_sub [(0, .ref x0), (1, .long x1), (3, .int x3), (4, .ref x4), (5, .ref x5), (6, .ref x6), (7, .int v7), (8, .int x8), (9, .int x9), (10, .int x10), (11, .int y0)] [2, 3, 4, 5, 6, 7, 0, 8, 9, 10, 1] rfl ?_
  exact tb_X7_writeNewText_164 (F := F) C hr hk38 h
def b_X7_writeNewText_38 (sh : List gS) (F : Nat) (k38 : Nat → Int64 → Int32 → Nat → Nat → Nat → Int32 → Int32 → Int32 → Int32 → gM → Option (gM)) (x0 : Nat) (x1 : Int64) (x3 : Int32) (x4 : Nat) (x5 : Nat) (x6 : Nat) (x7 : Int32) (x8 : Int32) (x9 : Int32) (x10 : Int32) (m : gM) : Option (gM) :=
  g_if (oB sh x0 7) ((m.2.2 x0 1).bind (fun t2 => g_if (oB sh t2 5) (if (m.1 t2 1) ≤ x10 then (some m) else (g_if (oB sh x5 0) ((f_X0_standsAt sh F x5 x7 x10 m).bind (fun q8 => nm q8.1 (fun r7 => nm q8.2 (fun m6 => if r7 = 0 then (g_if (oB sh x6 0) ((f_X0_standsAt sh F x6 x8 x10 m6).bind (fun q13 => nm q13.1 (fun r12 => nm q13.2 (fun m11 => if r12 = 0 then (b_X7_writeNewText_164 sh F k38 x0 x1 x3 x4 x5 x6 x7 x8 x9 x10 0 m11) else ((m11.2.2 x0 4).bind (fun t15 => g_if (oB sh t15 1) ((m11.2.2 t15 1).bind (fun t17 => g_if (aB sh t17 .long x8) (if ((m11.2.1 t17 (x8).toNatClampNeg) &&& x1) = (0 : Int64) then (b_X7_writeNewText_141 sh F k38 x0 x1 x3 x4 x5 x6 x7 x8 x9 x10 0 m11) else (b_X7_writeNewText_141 sh F k38 x0 x1 x3 x4 x5 x6 x7 x8 x9 x10 1 m11))))))))))) else (if (((x1.toUInt64 >>> (x7.toInt64.toUInt64 &&& Int64.toUInt64 63)).toInt64) &&& (1 : Int64)) = (0 : Int64) then (b_X7_writeNewText_81 sh F k38 x0 x1 x3 x4 x5 x6 x7 x8 x9 x10 0 m6) else (b_X7_writeNewText_81 sh F k38 x0 x1 x3 x4 x5 x6 x7 x8 x9 x10 1 m6))))))))))
set_option maxRecDepth 100000 in
set_option maxHeartbeats 4000000 in
theorem tb_X7_writeNewText_38 {X : gX} {w : gW} {rm : gM} (C : gC X w K_X7_writeNewText 12 RX7 2) (hr : X.2.2.2.2.2.2.2.2.1.sig.returnType = none) {F : Nat} {k38 : Nat → Int64 → Int32 → Nat → Nat → Nat → Int32 → Int32 → Int32 → Int32 → gM → Option (gM)} (hk38 : ∀ (z0 : Nat) (z1 : Int64) (z3 : Int32) (z4 : Nat) (z5 : Nat) (z6 : Nat) (z7 : Int32) (z8 : Int32) (z9 : Int32) (z10 : Int32) (m : gM), k38 z0 z1 z3 z4 z5 z6 z7 z8 z9 z10 m = some rm → gV X w 0 0 (gR X w none rm) 12 38 [(0, .ref z0), (1, .long z1), (3, .int z3), (4, .ref z4), (5, .ref z5), (6, .ref z6), (7, .int z7), (8, .int z8), (9, .int z9), (10, .int z10)] [] m) {x0 : Nat} {x1 : Int64} {x3 : Int32} {x4 : Nat} {x5 : Nat} {x6 : Nat} {x7 : Int32} {x8 : Int32} {x9 : Int32} {x10 : Int32} {m : gM} (h : b_X7_writeNewText_38 w.2.2.2.2.1 F k38 x0 x1 x3 x4 x5 x6 x7 x8 x9 x10 m = some rm) : gV X w 0 0 (gR X w none rm) 12 38 [(0, .ref x0), (1, .long x1), (3, .int x3), (4, .ref x4), (5, .ref x5), (6, .ref x6), (7, .int x7), (8, .int x8), (9, .int x9), (10, .int x10)] [] m := by
  unfold b_X7_writeNewText_38 at h
  refine v_iload (pc := 38) C 20 9 rfl rfl ?_
  refine v_aload_n (pc := 40) C 21 0 rfl rfl rfl ?_
  obtain ⟨o1, h⟩ := g_okk h
  obtain ⟨t2, qt2, h⟩ := g_bd h
  refine v_getR (pc := 41) C 22 rfl lf_ScopeGraph_16.get (g_oB o1) rfl qt2 ?_
  obtain ⟨o3, h⟩ := g_okk h
  refine v_getI (pc := 44) C 23 rfl lf_ScopeGraph_61.get (g_oB o3) rfl ?_
  refine v_icmp_ge (pc := 47) C 24 224 rfl (by decide) (fun c4 => ?_) (fun c4 => ?_)
  · replace h := g_ifT c4 h
    cases g_s1' h
    exact v_vret (pc := 224) C 108 rfl hr
  · replace h := g_ifF c4 h
    refine v_iconst (pc := 50) C 25 0 rfl (by decide) ?_
    refine v_istore (pc := 51) (lv' := [(11, .int 0), (0, .ref x0), (1, .long x1), (3, .int x3), (4, .ref x4), (5, .ref x5), (6, .ref x6), (7, .int x7), (8, .int x8), (9, .int x9), (10, .int x10)]) C 26 rfl (by decide) rfl ?_
    refine v_aload (pc := 53) C 27 5 rfl rfl ?_
    refine v_iload (pc := 55) C 28 7 rfl rfl ?_
    refine v_iload (pc := 57) C 29 10 rfl rfl ?_
    obtain ⟨o5, h⟩ := g_okk h
    obtain ⟨⟨r7, m6⟩, qm6, h⟩ := g_bd h
    replace h := g_nm (y := m6) (g_nm (y := r7) h rfl) rfl
    refine v_callV (pc := 59) C 30 rfl mf_X0_standsAt clX0 rfl im_X0_standsAt lm_ScopeGraph_222 (c_X0_standsAt C.2.2.2.2.2.2.2.2.2.2.2 qm6) (by decide) rfl (g_oB o5) (Nat.le_of_ble_eq_true rfl) ⟨Nat.zero_le _, Nat.zero_le _⟩ rfl ?_
    change gV X w 0 0 (gR X w none rm) 12 62 [(11, .int 0), (0, .ref x0), (1, .long x1), (3, .int x3), (4, .ref x4), (5, .ref x5), (6, .ref x6), (7, .int x7), (8, .int x8), (9, .int x9), (10, .int x10)] [.int r7] m6
    refine v_if_eq (pc := 62) C 31 107 rfl (by decide) (fun c9 => ?_) (fun c9 => ?_)
    · replace h := g_ifT c9 h
      refine v_aload (pc := 107) C 54 6 rfl rfl ?_
      refine v_iload (pc := 109) C 55 8 rfl rfl ?_
      refine v_iload (pc := 111) C 56 10 rfl rfl ?_
      obtain ⟨o10, h⟩ := g_okk h
      obtain ⟨⟨r12, m11⟩, qm11, h⟩ := g_bd h
      replace h := g_nm (y := m11) (g_nm (y := r12) h rfl) rfl
      refine v_callV (pc := 113) C 57 rfl mf_X0_standsAt clX0 rfl im_X0_standsAt lm_ScopeGraph_222 (c_X0_standsAt C.2.2.2.2.2.2.2.2.2.2.2 qm11) (by decide) rfl (g_oB o10) (Nat.le_of_ble_eq_true rfl) ⟨Nat.zero_le _, Nat.zero_le _⟩ rfl ?_
      change gV X w 0 0 (gR X w none rm) 12 116 [(11, .int 0), (0, .ref x0), (1, .long x1), (3, .int x3), (4, .ref x4), (5, .ref x5), (6, .ref x6), (7, .int x7), (8, .int x8), (9, .int x9), (10, .int x10)] [.int r12] m11
      refine v_if_eq (pc := 116) C 58 164 rfl (by decide) (fun c14 => ?_) (fun c14 => ?_)
      · replace h := g_ifT c14 h
        refine v_sub [(0, .ref x0), (1, .long x1), (3, .int x3), (4, .ref x4), (5, .ref x5), (6, .ref x6), (7, .int x7), (8, .int x8), (9, .int x9), (10, .int x10), (11, .int 0)] [1, 2, 3, 4, 5, 6, 7, 8, 9, 10, 0] rfl ?_
        exact tb_X7_writeNewText_164 (F := F) C hr hk38 h
      · replace h := g_ifF c14 h
        refine v_aload_n (pc := 119) C 59 1 rfl rfl rfl ?_
        obtain ⟨t15, qt15, h⟩ := g_bd h
        refine v_getR (pc := 120) C 60 rfl lf_ScopeGraph_32.get (g_oB o1) rfl qt15 ?_
        obtain ⟨o16, h⟩ := g_okk h
        obtain ⟨t17, qt17, h⟩ := g_bd h
        refine v_getR (pc := 123) C 61 rfl lf_ScopeGraph_175 (g_oB o16) rfl qt17 ?_
        refine v_iload (pc := 126) C 62 8 rfl rfl ?_
        obtain ⟨b18, h⟩ := g_okk h
        refine v_lald' (pc := 128) C 63 rfl b18 ?_
        refine v_lload_n (pc := 129) C 64 2 rfl rfl rfl ?_
        refine v_land (pc := 130) C 65 rfl ?_
        refine v_lconst (pc := 131) C 66 0 rfl (by decide) ?_
        refine v_lcmp (pc := 132) C 67 rfl ?_
        refine v_lif_eq (pc := 133) C 68 140 rfl (by decide) (fun c19 => ?_) (fun c19 => ?_)
        · replace h := g_ifT c19 h
          refine v_iconst (pc := 140) C 71 0 rfl (by decide) ?_
          refine v_sub [(0, .ref x0), (1, .long x1), (3, .int x3), (4, .ref x4), (5, .ref x5), (6, .ref x6), (7, .int x7), (8, .int x8), (9, .int x9), (10, .int x10)] [1, 2, 3, 4, 5, 6, 7, 8, 9, 10] rfl ?_
          exact tb_X7_writeNewText_141 (F := F) C hr hk38 h
        · replace h := g_ifF c19 h
          refine v_iconst (pc := 136) C 69 1 rfl (by decide) ?_
          refine v_goto (pc := 137) C 70 141 rfl (by decide) ?_
          refine v_sub [(0, .ref x0), (1, .long x1), (3, .int x3), (4, .ref x4), (5, .ref x5), (6, .ref x6), (7, .int x7), (8, .int x8), (9, .int x9), (10, .int x10)] [1, 2, 3, 4, 5, 6, 7, 8, 9, 10] rfl ?_
          exact tb_X7_writeNewText_141 (F := F) C hr hk38 h
    · replace h := g_ifF c9 h
      refine v_lload_n (pc := 65) C 32 2 rfl rfl rfl ?_
      refine v_iload (pc := 66) C 33 7 rfl rfl ?_
      refine v_lushr (pc := 68) C 34 rfl ?_
      refine v_lconst (pc := 69) C 35 1 rfl (by decide) ?_
      refine v_land (pc := 70) C 36 rfl ?_
      refine v_lconst (pc := 71) C 37 0 rfl (by decide) ?_
      refine v_lcmp (pc := 72) C 38 rfl ?_
      refine v_lif_eq (pc := 73) C 39 80 rfl (by decide) (fun c20 => ?_) (fun c20 => ?_)
      · replace h := g_ifT c20 h
        refine v_iconst (pc := 80) C 42 0 rfl (by decide) ?_
        refine v_sub [(0, .ref x0), (1, .long x1), (3, .int x3), (4, .ref x4), (5, .ref x5), (6, .ref x6), (7, .int x7), (8, .int x8), (9, .int x9), (10, .int x10)] [1, 2, 3, 4, 5, 6, 7, 8, 9, 10] rfl ?_
        exact tb_X7_writeNewText_81 (F := F) C hr hk38 h
      · replace h := g_ifF c20 h
        refine v_iconst (pc := 76) C 40 1 rfl (by decide) ?_
        refine v_goto (pc := 77) C 41 81 rfl (by decide) ?_
        refine v_sub [(0, .ref x0), (1, .long x1), (3, .int x3), (4, .ref x4), (5, .ref x5), (6, .ref x6), (7, .int x7), (8, .int x8), (9, .int x9), (10, .int x10)] [1, 2, 3, 4, 5, 6, 7, 8, 9, 10] rfl ?_
        exact tb_X7_writeNewText_81 (F := F) C hr hk38 h
def l_X7_writeNewText_38 (sh : List gS) (F : Nat) : Nat → Nat → Int64 → Int32 → Nat → Nat → Nat → Int32 → Int32 → Int32 → Int32 → gM → Option (gM)
  | 0 => fun _ _ _ _ _ _ _ _ _ _ _ => none
  | n + 1 => fun x0 x1 x3 x4 x5 x6 x7 x8 x9 x10 m => b_X7_writeNewText_38 sh F (l_X7_writeNewText_38 sh F n) x0 x1 x3 x4 x5 x6 x7 x8 x9 x10 m
theorem tl_X7_writeNewText_38 {X : gX} {w : gW} {rm : gM} (C : gC X w K_X7_writeNewText 12 RX7 2) (hr : X.2.2.2.2.2.2.2.2.1.sig.returnType = none) {F : Nat} : ∀ (n : Nat) (x0 : Nat) (x1 : Int64) (x3 : Int32) (x4 : Nat) (x5 : Nat) (x6 : Nat) (x7 : Int32) (x8 : Int32) (x9 : Int32) (x10 : Int32) (m : gM), l_X7_writeNewText_38 w.2.2.2.2.1 F n x0 x1 x3 x4 x5 x6 x7 x8 x9 x10 m = some rm → gV X w 0 0 (gR X w none rm) 12 38 [(0, .ref x0), (1, .long x1), (3, .int x3), (4, .ref x4), (5, .ref x5), (6, .ref x6), (7, .int x7), (8, .int x8), (9, .int x9), (10, .int x10)] [] m := by
  intro n
  induction n with
  | zero => intro x0 x1 x3 x4 x5 x6 x7 x8 x9 x10 m h; cases h
  | succ n ih => intro x0 x1 x3 x4 x5 x6 x7 x8 x9 x10 m h; exact tb_X7_writeNewText_38 (F := F) C hr ih h
def f_X7_writeNewText (sh : List gS) (F : Nat) (x0 : Nat) (x1 : Int64) (x3 : Int32) (x4 : Nat) (m : gM) : Option (gM) :=
  g_if (oB sh x0 7) ((m.2.2 x0 2).bind (fun t2 => g_if (oB sh t2 2) ((m.2.2 t2 0).bind (fun t4 => (m.2.2 x0 2).bind (fun t5 => g_if (oB sh t5 2) ((m.2.2 t5 1).bind (fun t7 => (m.2.2 x0 0).bind (fun t8 => g_if (oB sh t8 5) (nm (gsI m t8 1 0) (fun m10 => l_X7_writeNewText_38 sh F F x0 x1 x3 x4 t4 t7 0 0 0 0 m10))))))))))
set_option maxRecDepth 100000 in
set_option maxHeartbeats 4000000 in
theorem tf_X7_writeNewText {X : gX} {w : gW} {rm : gM} (C : gC X w K_X7_writeNewText 12 RX7 2) (hr : X.2.2.2.2.2.2.2.2.1.sig.returnType = none) {F : Nat} {x0 : Nat} {x1 : Int64} {x3 : Int32} {x4 : Nat} {m : gM} (h : f_X7_writeNewText w.2.2.2.2.1 F x0 x1 x3 x4 m = some rm) : gV X w 0 0 (gR X w none rm) 12 0 [(0, .ref x0), (1, .long x1), (3, .int x3), (4, .ref x4)] [] m := by
  unfold f_X7_writeNewText at h
  refine v_aload_n (pc := 0) C 0 0 rfl rfl rfl ?_
  obtain ⟨o1, h⟩ := g_okk h
  obtain ⟨t2, qt2, h⟩ := g_bd h
  refine v_getR (pc := 1) C 1 rfl lf_ScopeGraph_22.get (g_oB o1) rfl qt2 ?_
  obtain ⟨o3, h⟩ := g_okk h
  obtain ⟨t4, qt4, h⟩ := g_bd h
  refine v_getR (pc := 4) C 2 rfl lf_ScopeGraph_100 (g_oB o3) rfl qt4 ?_
  refine v_astore (pc := 7) (lv' := [(5, .ref t4), (0, .ref x0), (1, .long x1), (3, .int x3), (4, .ref x4)]) C 3 rfl (by decide) rfl ?_
  refine v_aload_n (pc := 9) C 4 1 rfl rfl rfl ?_
  obtain ⟨t5, qt5, h⟩ := g_bd h
  refine v_getR (pc := 10) C 5 rfl lf_ScopeGraph_22.get (g_oB o1) rfl qt5 ?_
  obtain ⟨o6, h⟩ := g_okk h
  obtain ⟨t7, qt7, h⟩ := g_bd h
  refine v_getR (pc := 13) C 6 rfl lf_ScopeGraph_107 (g_oB o6) rfl qt7 ?_
  refine v_astore (pc := 16) (lv' := [(6, .ref t7), (5, .ref t4), (0, .ref x0), (1, .long x1), (3, .int x3), (4, .ref x4)]) C 7 rfl (by decide) rfl ?_
  refine v_iconst (pc := 18) C 8 0 rfl (by decide) ?_
  refine v_istore (pc := 19) (lv' := [(7, .int 0), (6, .ref t7), (5, .ref t4), (0, .ref x0), (1, .long x1), (3, .int x3), (4, .ref x4)]) C 9 rfl (by decide) rfl ?_
  refine v_iconst (pc := 21) C 10 0 rfl (by decide) ?_
  refine v_istore (pc := 22) (lv' := [(8, .int 0), (7, .int 0), (6, .ref t7), (5, .ref t4), (0, .ref x0), (1, .long x1), (3, .int x3), (4, .ref x4)]) C 11 rfl (by decide) rfl ?_
  refine v_iconst (pc := 24) C 12 0 rfl (by decide) ?_
  refine v_istore (pc := 25) (lv' := [(9, .int 0), (8, .int 0), (7, .int 0), (6, .ref t7), (5, .ref t4), (0, .ref x0), (1, .long x1), (3, .int x3), (4, .ref x4)]) C 13 rfl (by decide) rfl ?_
  refine v_aload_n (pc := 27) C 14 5 rfl rfl rfl ?_
  obtain ⟨t8, qt8, h⟩ := g_bd h
  refine v_getR (pc := 28) C 15 rfl lf_ScopeGraph_10.get (g_oB o1) rfl qt8 ?_
  refine v_iconst (pc := 31) C 16 0 rfl (by decide) ?_
  obtain ⟨o9, h⟩ := g_okk h
  refine v_putI (pc := 32) C 17 rfl lf_ScopeGraph_61 (g_oB o9) rfl ?_
  refine v_topM (fun m10 em10 => ?_)
  replace h := g_nm h em10
  refine v_iconst (pc := 35) C 18 0 rfl (by decide) ?_
  refine v_istore (pc := 36) (lv' := [(10, .int 0), (9, .int 0), (8, .int 0), (7, .int 0), (6, .ref t7), (5, .ref t4), (0, .ref x0), (1, .long x1), (3, .int x3), (4, .ref x4)]) C 19 rfl (by decide) rfl ?_
  refine v_sub [(0, .ref x0), (1, .long x1), (3, .int x3), (4, .ref x4), (5, .ref t4), (6, .ref t7), (7, .int 0), (8, .int 0), (9, .int 0), (10, .int 0)] [6, 7, 8, 9, 5, 4, 3, 2, 1, 0] rfl ?_
  exact tl_X7_writeNewText_38 (F := F) C hr _ _ _ _ _ _ _ _ _ _ _ _ h
theorem c_X7_writeNewText {l : Launch} {w : gW} {rm : gM} (hJ : gJok w) {F : Nat} {x0 : Nat} {x1 : Int64} {x3 : Int32} {x4 : Nat} {m : gM} (h : f_X7_writeNewText w.2.2.2.2.1 F x0 x1 x3 x4 m = some rm) : gMet l 2 yX7_writeNewText cX7_writeNewText 12 none w [.ref x0, .long x1, .int x3, .ref x4] m none rm :=
  gMet.of hJ mf_X7_writeNewText dk_X7_writeNewText (Nat.le_of_ble_eq_true rfl) (fun X _ C hr => tf_X7_writeNewText (F := F) C hr h)
