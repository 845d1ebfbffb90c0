def f_X0_has (sh : List gS) (F : Nat) (x0 : Nat) (x1 : Int32) (m : gM) : Option (Int32 × gM) :=
  if x1 < 0 then (some (0, m)) else (g_if (oB sh x0 0) (if (m.1 x0 4) ≤ x1 then (some (0, m)) else (some (1, m))))
set_option maxRecDepth 100000 in
set_option maxHeartbeats 4000000 in
theorem tf_X0_has {X : gX} {w : gW} {rr : Int32} {rm : gM} (C : gC X w K_X0_has 2 RX0 0) (hr : X.2.2.2.2.2.2.2.2.1.sig.returnType = (some .boolean)) {F : Nat} {x0 : Nat} {x1 : Int32} {m : gM} (h : f_X0_has w.2.2.2.2.1 F x0 x1 m = some (rr, rm)) : gV X w 0 0 (gR X w (some (.int rr)) rm) 2 0 [(0, .ref x0), (1, .int x1)] [] m := by
  unfold f_X0_has at h
  refine v_iload_n (pc := 0) C 0 1 rfl rfl rfl ?_
  refine v_if_lt (pc := 1) C 1 16 rfl (by decide) (fun c1 => ?_) (fun c1 => ?_)
  · replace h := g_ifT c1 h
    refine v_iconst (pc := 16) C 8 0 rfl (by decide) ?_
    obtain ⟨rfl, rfl⟩ := g_so h
    exact v_zret (pc := 17) C 9 rfl hr (by decide)
  · replace h := g_ifF c1 h
    refine v_iload_n (pc := 4) C 2 1 rfl rfl rfl ?_
    refine v_aload_n (pc := 5) C 3 0 rfl rfl rfl ?_
    obtain ⟨o2, h⟩ := g_okk h
    refine v_getI (pc := 6) C 4 rfl lf_ScopeGraph_Marks_25.get (g_oB o2) rfl ?_
    refine v_icmp_ge (pc := 9) C 5 16 rfl (by decide) (fun c3 => ?_) (fun c3 => ?_)
    · replace h := g_ifT c3 h
      refine v_iconst (pc := 16) C 8 0 rfl (by decide) ?_
      obtain ⟨rfl, rfl⟩ := g_so h
      exact v_zret (pc := 17) C 9 rfl hr (by decide)
    · replace h := g_ifF c3 h
      refine v_iconst (pc := 12) C 6 1 rfl (by decide) ?_
      refine v_goto (pc := 13) C 7 17 rfl (by decide) ?_
      obtain ⟨rfl, rfl⟩ := g_so h
      exact v_zret (pc := 17) C 9 rfl hr (by decide)
theorem c_X0_has {l : Launch} {w : gW} {rr : Int32} {rm : gM} (hJ : gJok w) {F : Nat} {x0 : Nat} {x1 : Int32} {m : gM} (h : f_X0_has w.2.2.2.2.1 F x0 x1 m = some (rr, rm)) : gMet l 0 yX0_has cX0_has 2 (some .boolean) w [.ref x0, .int x1] m (some (.int rr)) rm :=
  gMet.of hJ mf_X0_has dk_X0_has (Nat.le_of_ble_eq_true rfl) (fun X _ C hr => tf_X0_has (F := F) C hr h)
def f_X0_add (sh : List gS) (F : Nat) (x0 : Nat) (x1 : Int32) (x2 : Nat) (m : gM) : Option (Int32 × gM) :=
  g_if (oB sh x0 0) (if (m.1 x0 4) < 0 then (some ((-1), m)) else ((m.2.2 x0 1).bind (fun t3 => (aL sh t3 .int).bind (fun n4 => if (m.1 x0 4) < (Int32.ofNat n4) then ((m.2.2 x0 0).bind (fun t6 => g_if (aB sh t6 .int (m.1 x0 4)) (nm (gsI m t6 (m.1 x0 4).toNatClampNeg x1) (fun m8 => (m8.2.2 x0 1).bind (fun t9 => g_if (oB sh x2 6) (g_if (aB sh t9 .int (m8.1 x0 4)) (nm (gsI m8 t9 (m8.1 x0 4).toNatClampNeg (m8.1 x2 1)) (fun m12 => (m12.2.2 x0 2).bind (fun t13 => g_if (aB sh t13 .long (m12.1 x0 4)) (nm (gsL m12 t13 (m12.1 x0 4).toNatClampNeg (m12.2.1 x2 3)) (fun m15 => (m15.2.2 x0 3).bind (fun t16 => g_if (aB sh t16 .long (m15.1 x0 4)) (nm (gsL m15 t16 (m15.1 x0 4).toNatClampNeg (m15.2.1 x2 4)) (fun m18 => nm (gsI m18 x0 4 ((m18.1 x0 4) + (1 : Int32))) (fun m19 => some ((m19.1 x0 4) - (1 : Int32), m19)))))))))))))))) else (some ((-1), m))))))
set_option maxRecDepth 100000 in
set_option maxHeartbeats 4000000 in
theorem tf_X0_add {X : gX} {w : gW} {rr : Int32} {rm : gM} (C : gC X w K_X0_add 3 RX0 0) (hr : X.2.2.2.2.2.2.2.2.1.sig.returnType = (some .int)) {F : Nat} {x0 : Nat} {x1 : Int32} {x2 : Nat} {m : gM} (h : f_X0_add w.2.2.2.2.1 F x0 x1 x2 m = some (rr, rm)) : gV X w 0 0 (gR X w (some (.int rr)) rm) 3 0 [(0, .ref x0), (1, .int x1), (2, .ref x2)] [] m := by
  unfold f_X0_add at h
  refine v_aload_n (pc := 0) C 0 0 rfl rfl rfl ?_
  obtain ⟨o1, h⟩ := g_okk h
  refine v_getI (pc := 1) C 1 rfl lf_ScopeGraph_Marks_25.get (g_oB o1) rfl ?_
  refine v_if_lt (pc := 4) C 2 19 rfl (by decide) (fun c2 => ?_) (fun c2 => ?_)
  · replace h := g_ifT c2 h
    refine v_iconst (pc := 19) C 9 (-1) rfl (by decide) ?_
    obtain ⟨rfl, rfl⟩ := g_so h
    exact v_iret (pc := 20) C 10 rfl hr
  · replace h := g_ifF c2 h
    refine v_aload_n (pc := 7) C 3 0 rfl rfl rfl ?_
    refine v_getI (pc := 8) C 4 rfl lf_ScopeGraph_Marks_25.get (g_oB o1) rfl ?_
    refine v_aload_n (pc := 11) C 5 0 rfl rfl rfl ?_
    obtain ⟨t3, qt3, h⟩ := g_bd h
    refine v_getR (pc := 12) C 6 rfl lf_ScopeGraph_Marks_15 (g_oB o1) rfl qt3 ?_
    obtain ⟨n4, qn4, h⟩ := g_bd h
    refine v_alen (pc := 15) C 7 (Int32.ofNat n4) rfl (g_aL qn4) (Or.inl rfl) rfl ?_
    refine v_icmp_lt (pc := 16) C 8 21 rfl (by decide) (fun c5 => ?_) (fun c5 => ?_)
    · replace h := g_ifT c5 h
      refine v_aload_n (pc := 21) C 11 0 rfl rfl rfl ?_
      obtain ⟨t6, qt6, h⟩ := g_bd h
      refine v_getR (pc := 22) C 12 rfl lf_ScopeGraph_Marks_9 (g_oB o1) rfl qt6 ?_
      refine v_aload_n (pc := 25) C 13 0 rfl rfl rfl ?_
      refine v_getI (pc := 26) C 14 rfl lf_ScopeGraph_Marks_25.get (g_oB o1) rfl ?_
      refine v_iload_n (pc := 29) C 15 1 rfl rfl rfl ?_
      obtain ⟨b7, h⟩ := g_okk h
      refine v_iast' (pc := 30) C 16 rfl b7 ?_
      refine v_topM (fun m8 em8 => ?_)
      replace h := g_nm h em8
      refine v_aload_n (pc := 31) C 17 0 rfl rfl rfl ?_
      obtain ⟨t9, qt9, h⟩ := g_bd h
      refine v_getR (pc := 32) C 18 rfl lf_ScopeGraph_Marks_15 (g_oB o1) rfl qt9 ?_
      refine v_aload_n (pc := 35) C 19 0 rfl rfl rfl ?_
      refine v_getI (pc := 36) C 20 rfl lf_ScopeGraph_Marks_25.get (g_oB o1) rfl ?_
      refine v_aload_n (pc := 39) C 21 2 rfl rfl rfl ?_
      obtain ⟨o10, h⟩ := g_okk h
      refine v_getI (pc := 40) C 22 rfl lf_ScopeGraph_Marks_29.get (g_oB o10) rfl ?_
      obtain ⟨b11, h⟩ := g_okk h
      refine v_iast' (pc := 43) C 23 rfl b11 ?_
      refine v_topM (fun m12 em12 => ?_)
      replace h := g_nm h em12
      refine v_aload_n (pc := 44) C 24 0 rfl rfl rfl ?_
      obtain ⟨t13, qt13, h⟩ := g_bd h
      refine v_getR (pc := 45) C 25 rfl lf_ScopeGraph_Marks_18 (g_oB o1) rfl qt13 ?_
      refine v_aload_n (pc := 48) C 26 0 rfl rfl rfl ?_
      refine v_getI (pc := 49) C 27 rfl lf_ScopeGraph_Marks_25.get (g_oB o1) rfl ?_
      refine v_aload_n (pc := 52) C 28 2 rfl rfl rfl ?_
      refine v_getL (pc := 53) C 29 rfl lf_ScopeGraph_Marks_34.get (g_oB o10) rfl ?_
      obtain ⟨b14, h⟩ := g_okk h
      refine v_last' (pc := 56) C 30 rfl b14 ?_
      refine v_topM (fun m15 em15 => ?_)
      replace h := g_nm h em15
      refine v_aload_n (pc := 57) C 31 0 rfl rfl rfl ?_
      obtain ⟨t16, qt16, h⟩ := g_bd h
      refine v_getR (pc := 58) C 32 rfl lf_ScopeGraph_Marks_22 (g_oB o1) rfl qt16 ?_
      refine v_aload_n (pc := 61) C 33 0 rfl rfl rfl ?_
      refine v_getI (pc := 62) C 34 rfl lf_ScopeGraph_Marks_25.get (g_oB o1) rfl ?_
      refine v_aload_n (pc := 65) C 35 2 rfl rfl rfl ?_
      refine v_getL (pc := 66) C 36 rfl lf_ScopeGraph_Marks_38.get (g_oB o10) rfl ?_
      obtain ⟨b17, h⟩ := g_okk h
      refine v_last' (pc := 69) C 37 rfl b17 ?_
      refine v_topM (fun m18 em18 => ?_)
      replace h := g_nm h em18
      refine v_aload_n (pc := 70) C 38 0 rfl rfl rfl ?_
      refine v_dup (pc := 71) C 39 rfl rfl ?_
      refine v_getI (pc := 72) C 40 rfl lf_ScopeGraph_Marks_25.get (g_oB o1) rfl ?_
      refine v_iconst (pc := 75) C 41 1 rfl (by decide) ?_
      refine v_iadd (pc := 76) C 42 rfl ?_
      refine v_putI (pc := 77) C 43 rfl lf_ScopeGraph_Marks_25 (g_oB o1) rfl ?_
      refine v_topM (fun m19 em19 => ?_)
      replace h := g_nm h em19
      refine v_aload_n (pc := 80) C 44 0 rfl rfl rfl ?_
      refine v_getI (pc := 81) C 45 rfl lf_ScopeGraph_Marks_25.get (g_oB o1) rfl ?_
      refine v_iconst (pc := 84) C 46 1 rfl (by decide) ?_
      refine v_isub (pc := 85) C 47 rfl ?_
      obtain ⟨rfl, rfl⟩ := g_so h
      exact v_iret (pc := 86) C 48 rfl hr
    · replace h := g_ifF c5 h
      refine v_iconst (pc := 19) C 9 (-1) rfl (by decide) ?_
      obtain ⟨rfl, rfl⟩ := g_so h
      exact v_iret (pc := 20) C 10 rfl hr
theorem c_X0_add {l : Launch} {w : gW} {rr : Int32} {rm : gM} (hJ : gJok w) {F : Nat} {x0 : Nat} {x1 : Int32} {x2 : Nat} {m : gM} (h : f_X0_add w.2.2.2.2.1 F x0 x1 x2 m = some (rr, rm)) : gMet l 0 yX0_add cX0_add 3 (some .int) w [.ref x0, .int x1, .ref x2] m (some (.int rr)) rm :=
  gMet.of hJ mf_X0_add dk_X0_add (Nat.le_of_ble_eq_true rfl) (fun X _ C hr => tf_X0_add (F := F) C hr h)
def f_X0_standsAt (sh : List gS) (F : Nat) (x0 : Nat) (x1 : Int32) (x2 : Int32) (m : gM) : Option (Int32 × gM) :=
  g_if (oB sh x0 0) ((f_X0_has sh F x0 x1 m).bind (fun q4 => nm q4.1 (fun r3 => nm q4.2 (fun m2 => if r3 = 0 then (some (0, m2)) else ((m2.2.2 x0 1).bind (fun t6 => g_if (aB sh t6 .int x1) (if (m2.1 t6 (x1).toNatClampNeg) = x2 then (some (1, m2)) else (some (0, m2)))))))))
set_option maxRecDepth 100000 in
set_option maxHeartbeats 4000000 in
theorem tf_X0_standsAt {X : gX} {w : gW} {rr : Int32} {rm : gM} (C : gC X w K_X0_standsAt 3 RX0 1) (hr : X.2.2.2.2.2.2.2.2.1.sig.returnType = (some .boolean)) {F : Nat} {x0 : Nat} {x1 : Int32} {x2 : Int32} {m : gM} (h : f_X0_standsAt w.2.2.2.2.1 F x0 x1 x2 m = some (rr, rm)) : gV X w 0 0 (gR X w (some (.int rr)) rm) 3 0 [(0, .ref x0), (1, .int x1), (2, .int x2)] [] m := by
  unfold f_X0_standsAt at h
  refine v_aload_n (pc := 0) C 0 0 rfl rfl rfl ?_
  refine v_iload_n (pc := 1) C 1 1 rfl rfl rfl ?_
  obtain ⟨o1, h⟩ := g_okk h
  obtain ⟨⟨r3, m2⟩, qm2, h⟩ := g_bd h
  replace h := g_nm (y := m2) (g_nm (y := r3) h rfl) rfl
  refine v_callV (pc := 2) C 2 rfl mf_X0_has clX0 rfl im_X0_has lm_ScopeGraph_Marks_41 (c_X0_has C.2.2.2.2.2.2.2.2.2.2.2 qm2) (by decide) rfl (g_oB o1) (Nat.le_of_ble_eq_true rfl) ⟨Nat.zero_le _, Nat.zero_le _⟩ rfl ?_
  change gV X w 0 0 (gR X w (some (.int rr)) rm) 3 5 [(0, .ref x0), (1, .int x1), (2, .int x2)] [.int r3] m2
  refine v_if_eq (pc := 5) C 3 22 rfl (by decide) (fun c5 => ?_) (fun c5 => ?_)
  · replace h := g_ifT c5 h
    refine v_iconst (pc := 22) C 12 0 rfl (by decide) ?_
    obtain ⟨rfl, rfl⟩ := g_so h
    exact v_zret (pc := 23) C 13 rfl hr (by decide)
  · replace h := g_ifF c5 h
    refine v_aload_n (pc := 8) C 4 0 rfl rfl rfl ?_
    obtain ⟨t6, qt6, h⟩ := g_bd h
    refine v_getR (pc := 9) C 5 rfl lf_ScopeGraph_Marks_15 (g_oB o1) rfl qt6 ?_
    refine v_iload_n (pc := 12) C 6 1 rfl rfl rfl ?_
    obtain ⟨b7, h⟩ := g_okk h
    refine v_iald' (pc := 13) C 7 rfl b7 ?_
    refine v_iload_n (pc := 14) C 8 2 rfl rfl rfl ?_
    refine v_icmp_ne (pc := 15) C 9 22 rfl (by decide) (fun c8 => ?_) (fun c8 => ?_)
    · replace h := g_ifF c8 h
      refine v_iconst (pc := 22) C 12 0 rfl (by decide) ?_
      obtain ⟨rfl, rfl⟩ := g_so h
      exact v_zret (pc := 23) C 13 rfl hr (by decide)
    · replace h := g_ifT c8 h
      refine v_iconst (pc := 18) C 10 1 rfl (by decide) ?_
      refine v_goto (pc := 19) C 11 23 rfl (by decide) ?_
      obtain ⟨rfl, rfl⟩ := g_so h
      exact v_zret (pc := 23) C 13 rfl hr (by decide)
theorem c_X0_standsAt {l : Launch} {w : gW} {rr : Int32} {rm : gM} (hJ : gJok w) {F : Nat} {x0 : Nat} {x1 : Int32} {x2 : Int32} {m : gM} (h : f_X0_standsAt w.2.2.2.2.1 F x0 x1 x2 m = some (rr, rm)) : gMet l 1 yX0_standsAt cX0_standsAt 3 (some .boolean) w [.ref x0, .int x1, .int x2] m (some (.int rr)) rm :=
  gMet.of hJ mf_X0_standsAt dk_X0_standsAt (Nat.le_of_ble_eq_true rfl) (fun X _ C hr => tf_X0_standsAt (F := F) C hr h)
def b_X0_move_62 (sh : List gS) (F : Nat) (y0 : Int64) (y1 : Int32) (y2 : Nat) (m : gM) : Option (gM) :=
  g_if (aB sh y2 .long y1) (nm (gsL m y2 (y1).toNatClampNeg y0) (fun m2 => some m2))
set_option maxRecDepth 100000 in
set_option maxHeartbeats 4000000 in
theorem tb_X0_move_62 {X : gX} {w : gW} {rm : gM} (C : gC X w K_X0_move 5 RX0 1) (hr : X.2.2.2.2.2.2.2.2.1.sig.returnType = none) {F : Nat} {y0 : Int64} {y1 : Int32} {y2 : Nat} {m : gM} (h : b_X0_move_62 w.2.2.2.2.1 F y0 y1 y2 m = some rm) : gV X w 0 0 (gR X w none rm) 5 62 [] [.long y0, .int y1, .ref y2] m := by
  unfold b_X0_move_62 at h
  obtain ⟨b1, h⟩ := g_okk h
  refine v_last' (pc := 62) C 34 rfl b1 ?_
  refine v_topM (fun m2 em2 => ?_)
  replace h := g_nm h em2
  cases g_s1' h
  exact v_vret (pc := 63) C 35 rfl hr
def b_X0_move_38 (sh : List gS) (F : Nat) (x0 : Nat) (x1 : Int32) (x3 : Int32) (x4 : Nat) (y0 : Int64) (y1 : Int32) (y2 : Nat) (m : gM) : Option (gM) :=
  g_if (aB sh y2 .long y1) (nm (gsL m y2 (y1).toNatClampNeg y0) (fun m2 => g_if (oB sh x0 0) ((m2.2.2 x0 3).bind (fun t4 => if x3 = 0 then ((m2.2.2 x0 3).bind (fun t6 => g_if (aB sh t6 .long x1) (b_X0_move_62 sh F (m2.2.1 t6 (x1).toNatClampNeg) x1 t4 m2))) else (g_if (oB sh x4 6) (b_X0_move_62 sh F (m2.2.1 x4 4) x1 t4 m2))))))
set_option maxRecDepth 100000 in
set_option maxHeartbeats 4000000 in
theorem tb_X0_move_38 {X : gX} {w : gW} {rm : gM} (C : gC X w K_X0_move 5 RX0 1) (hr : X.2.2.2.2.2.2.2.2.1.sig.returnType = none) {F : Nat} {x0 : Nat} {x1 : Int32} {x3 : Int32} {x4 : Nat} {y0 : Int64} {y1 : Int32} {y2 : Nat} {m : gM} (h : b_X0_move_38 w.2.2.2.2.1 F x0 x1 x3 x4 y0 y1 y2 m = some rm) : gV X w 0 0 (gR X w none rm) 5 38 [(0, .ref x0), (1, .int x1), (3, .int x3), (4, .ref x4)] [.long y0, .int y1, .ref y2] m := by
  unfold b_X0_move_38 at h
  obtain ⟨b1, h⟩ := g_okk h
  refine v_last' (pc := 38) C 21 rfl b1 ?_
  refine v_topM (fun m2 em2 => ?_)
  replace h := g_nm h em2
  refine v_aload_n (pc := 39) C 22 0 rfl rfl rfl ?_
  obtain ⟨o3, h⟩ := g_okk h
  obtain ⟨t4, qt4, h⟩ := g_bd h
  refine v_getR (pc := 40) C 23 rfl lf_ScopeGraph_Marks_22 (g_oB o3) rfl qt4 ?_
  refine v_iload_n (pc := 43) C 24 1 rfl rfl rfl ?_
  refine v_iload_n (pc := 44) C 25 2 rfl rfl rfl ?_
  refine v_if_eq (pc := 45) C 26 56 rfl (by decide) (fun c5 => ?_) (fun c5 => ?_)
  · replace h := g_ifT c5 h
    refine v_aload_n (pc := 56) C 30 0 rfl rfl rfl ?_
    obtain ⟨t6, qt6, h⟩ := g_bd h
    refine v_getR (pc := 57) C 31 rfl lf_ScopeGraph_Marks_22 (g_oB o3) rfl qt6 ?_
    refine v_iload_n (pc := 60) C 32 1 rfl rfl rfl ?_
    obtain ⟨b7, h⟩ := g_okk h
    refine v_lald' (pc := 61) C 33 rfl b7 ?_
    refine v_sub [] [] rfl ?_
    exact tb_X0_move_62 (F := F) C hr h
  · replace h := g_ifF c5 h
    refine v_aload (pc := 48) C 27 3 rfl rfl ?_
    obtain ⟨o8, h⟩ := g_okk h
    refine v_getL (pc := 50) C 28 rfl lf_ScopeGraph_Marks_38.get (g_oB o8) rfl ?_
    refine v_goto (pc := 53) C 29 62 rfl (by decide) ?_
    refine v_sub [] [] rfl ?_
    exact tb_X0_move_62 (F := F) C hr h
def f_X0_move (sh : List gS) (F : Nat) (x0 : Nat) (x1 : Int32) (x2 : Int32) (x3 : Int32) (x4 : Nat) (m : gM) : Option (gM) :=
  g_if (oB sh x0 0) ((f_X0_has sh F x0 x1 m).bind (fun q4 => nm q4.1 (fun r3 => nm q4.2 (fun m2 => if r3 = 0 then (some m2) else ((m2.2.2 x0 1).bind (fun t6 => g_if (aB sh t6 .int x1) (nm (gsI m2 t6 (x1).toNatClampNeg x2) (fun m8 => (m8.2.2 x0 2).bind (fun t9 => if x3 = 0 then ((m8.2.2 x0 2).bind (fun t11 => g_if (aB sh t11 .long x1) (b_X0_move_38 sh F x0 x1 x3 x4 (m8.2.1 t11 (x1).toNatClampNeg) x1 t9 m8))) else (g_if (oB sh x4 6) (b_X0_move_38 sh F x0 x1 x3 x4 (m8.2.1 x4 3) x1 t9 m8)))))))))))
set_option maxRecDepth 100000 in
set_option maxHeartbeats 4000000 in
theorem tf_X0_move {X : gX} {w : gW} {rm : gM} (C : gC X w K_X0_move 5 RX0 1) (hr : X.2.2.2.2.2.2.2.2.1.sig.returnType = none) {F : Nat} {x0 : Nat} {x1 : Int32} {x2 : Int32} {x3 : Int32} {x4 : Nat} {m : gM} (h : f_X0_move w.2.2.2.2.1 F x0 x1 x2 x3 x4 m = some rm) : gV X w 0 0 (gR X w none rm) 5 0 [(0, .ref x0), (1, .int x1), (2, .int x2), (3, .int x3), (4, .ref x4)] [] m := by
  unfold f_X0_move at h
  refine v_aload_n (pc := 0) C 0 0 rfl rfl rfl ?_
  refine v_iload_n (pc := 1) C 1 1 rfl rfl rfl ?_
  obtain ⟨o1, h⟩ := g_okk h
  obtain ⟨⟨r3, m2⟩, qm2, h⟩ := g_bd h
  replace h := g_nm (y := m2) (g_nm (y := r3) h rfl) rfl
  refine v_callV (pc := 2) C 2 rfl mf_X0_has clX0 rfl im_X0_has lm_ScopeGraph_Marks_41 (c_X0_has C.2.2.2.2.2.2.2.2.2.2.2 qm2) (by decide) rfl (g_oB o1) (Nat.le_of_ble_eq_true rfl) ⟨Nat.zero_le _, Nat.zero_le _⟩ rfl ?_
  change gV X w 0 0 (gR X w none rm) 5 5 [(0, .ref x0), (1, .int x1), (2, .int x2), (3, .int x3), (4, .ref x4)] [.int r3] m2
  refine v_if_eq (pc := 5) C 3 63 rfl (by decide) (fun c5 => ?_) (fun c5 => ?_)
  · replace h := g_ifT c5 h
    cases g_s1' h
    exact v_vret (pc := 63) C 35 rfl hr
  · replace h := g_ifF c5 h
    refine v_aload_n (pc := 8) C 4 0 rfl rfl rfl ?_
    obtain ⟨t6, qt6, h⟩ := g_bd h
    refine v_getR (pc := 9) C 5 rfl lf_ScopeGraph_Marks_15 (g_oB o1) rfl qt6 ?_
    refine v_iload_n (pc := 12) C 6 1 rfl rfl rfl ?_
    refine v_iload_n (pc := 13) C 7 2 rfl rfl rfl ?_
    obtain ⟨b7, h⟩ := g_okk h
    refine v_iast' (pc := 14) C 8 rfl b7 ?_
    refine v_topM (fun m8 em8 => ?_)
    replace h := g_nm h em8
    refine v_aload_n (pc := 15) C 9 0 rfl rfl rfl ?_
    obtain ⟨t9, qt9, h⟩ := g_bd h
    refine v_getR (pc := 16) C 10 rfl lf_ScopeGraph_Marks_18 (g_oB o1) rfl qt9 ?_
    refine v_iload_n (pc := 19) C 11 1 rfl rfl rfl ?_
    refine v_iload_n (pc := 20) C 12 3 rfl rfl rfl ?_
    refine v_if_eq (pc := 21) C 13 32 rfl (by decide) (fun c10 => ?_) (fun c10 => ?_)
    · replace h := g_ifT c10 h
      refine v_aload_n (pc := 32) C 17 0 rfl rfl rfl ?_
      obtain ⟨t11, qt11, h⟩ := g_bd h
      refine v_getR (pc := 33) C 18 rfl lf_ScopeGraph_Marks_18 (g_oB o1) rfl qt11 ?_
      refine v_iload_n (pc := 36) C 19 1 rfl rfl rfl ?_
      obtain ⟨b12, h⟩ := g_okk h
      refine v_lald' (pc := 37) C 20 rfl b12 ?_
      refine v_sub [(0, .ref x0), (1, .int x1), (3, .int x3), (4, .ref x4)] [0, 1, 3, 4] rfl ?_
      exact tb_X0_move_38 (F := F) C hr h
    · replace h := g_ifF c10 h
      refine v_aload (pc := 24) C 14 4 rfl rfl ?_
      obtain ⟨o13, h⟩ := g_okk h
      refine v_getL (pc := 26) C 15 rfl lf_ScopeGraph_Marks_34.get (g_oB o13) rfl ?_
      refine v_goto (pc := 29) C 16 38 rfl (by decide) ?_
      refine v_sub [(0, .ref x0), (1, .int x1), (3, .int x3), (4, .ref x4)] [0, 1, 3, 4] rfl ?_
      exact tb_X0_move_38 (F := F) C hr h
theorem c_X0_move {l : Launch} {w : gW} {rm : gM} (hJ : gJok w) {F : Nat} {x0 : Nat} {x1 : Int32} {x2 : Int32} {x3 : Int32} {x4 : Nat} {m : gM} (h : f_X0_move w.2.2.2.2.1 F x0 x1 x2 x3 x4 m = some rm) : gMet l 1 yX0_move cX0_move 5 none w [.ref x0, .int x1, .int x2, .int x3, .ref x4] m none rm :=
  gMet.of hJ mf_X0_move dk_X0_move (Nat.le_of_ble_eq_true rfl) (fun X _ C hr => tf_X0_move (F := F) C hr h)
def b_X7_nameByte_30 (sh : List gS) (F : Nat) (y0 : Int64) (m : gM) : Option (Int32 × gM) :=
  some ((y0 &&& (255 : Int64)).toInt32, m)
set_option maxRecDepth 100000 in
set_option maxHeartbeats 4000000 in
theorem tb_X7_nameByte_30 {X : gX} {w : gW} {rr : Int32} {rm : gM} (C : gC X w K_X7_nameByte 5 RX7 0) (hr : X.2.2.2.2.2.2.2.2.1.sig.returnType = (some .int)) {F : Nat} {y0 : Int64} {m : gM} (h : b_X7_nameByte_30 w.2.2.2.2.1 F y0 m = some (rr, rm)) : gV X w 0 0 (gR X w (some (.int rr)) rm) 5 30 [] [.long y0] m := by
  unfold b_X7_nameByte_30 at h
  refine v_ldc2 (pc := 30) C 18 (v := 255) rfl (g_tb 478 (by decide +kernel) rfl) ?_
  refine v_land (pc := 33) C 19 rfl ?_
  refine v_l2i (pc := 34) C 20 rfl ?_
  obtain ⟨rfl, rfl⟩ := g_so h
  exact v_iret (pc := 35) C 21 rfl hr
def f_X7_nameByte (sh : List gS) (F : Nat) (x0 : Int64) (x2 : Int64) (x4 : Int32) (m : gM) : Option (Int32 × gM) :=
  if (6 : Int32) ≤ x4 then (b_X7_nameByte_30 sh F ((x2.toUInt64 >>> (((88 : Int32) - ((8 : Int32) * x4)).toInt64.toUInt64 &&& Int64.toUInt64 63)).toInt64) m) else (b_X7_nameByte_30 sh F ((x0.toUInt64 >>> (((40 : Int32) - ((8 : Int32) * x4)).toInt64.toUInt64 &&& Int64.toUInt64 63)).toInt64) m)
set_option maxRecDepth 100000 in
set_option maxHeartbeats 4000000 in
theorem tf_X7_nameByte {X : gX} {w : gW} {rr : Int32} {rm : gM} (C : gC X w K_X7_nameByte 5 RX7 0) (hr : X.2.2.2.2.2.2.2.2.1.sig.returnType = (some .int)) {F : Nat} {x0 : Int64} {x2 : Int64} {x4 : Int32} {m : gM} (h : f_X7_nameByte w.2.2.2.2.1 F x0 x2 x4 m = some (rr, rm)) : gV X w 0 0 (gR X w (some (.int rr)) rm) 5 0 [(0, .long x0), (2, .long x2), (4, .int x4)] [] m := by
  unfold f_X7_nameByte at h
  refine v_iload (pc := 0) C 0 2 rfl rfl ?_
  refine v_bipush (pc := 2) C 1 6 rfl (by decide) ?_
  refine v_icmp_ge (pc := 4) C 2 20 rfl (by decide) (fun c1 => ?_) (fun c1 => ?_)
  · replace h := g_ifT c1 h
    refine v_lload_n (pc := 20) C 11 1 rfl rfl rfl ?_
    refine v_bipush (pc := 21) C 12 88 rfl (by decide) ?_
    refine v_bipush (pc := 23) C 13 8 rfl (by decide) ?_
    refine v_iload (pc := 25) C 14 2 rfl rfl ?_
    refine v_imul (pc := 27) C 15 rfl ?_
    refine v_isub (pc := 28) C 16 rfl ?_
    refine v_lushr (pc := 29) C 17 rfl ?_
    refine v_sub [] [] rfl ?_
    exact tb_X7_nameByte_30 (F := F) C hr h
  · replace h := g_ifF c1 h
    refine v_lload_n (pc := 7) C 3 0 rfl rfl rfl ?_
    refine v_bipush (pc := 8) C 4 40 rfl (by decide) ?_
    refine v_bipush (pc := 10) C 5 8 rfl (by decide) ?_
    refine v_iload (pc := 12) C 6 2 rfl rfl ?_
    refine v_imul (pc := 14) C 7 rfl ?_
    refine v_isub (pc := 15) C 8 rfl ?_
    refine v_lushr (pc := 16) C 9 rfl ?_
    refine v_goto (pc := 17) C 10 30 rfl (by decide) ?_
    refine v_sub [] [] rfl ?_
    exact tb_X7_nameByte_30 (F := F) C hr h
theorem c_X7_nameByte {l : Launch} {w : gW} {rr : Int32} {rm : gM} (hJ : gJok w) {F : Nat} {x0 : Int64} {x2 : Int64} {x4 : Int32} {m : gM} (h : f_X7_nameByte w.2.2.2.2.1 F x0 x2 x4 m = some (rr, rm)) : gMet l 0 yX7_nameByte cX7_nameByte 5 (some .int) w [.long x0, .long x2, .int x4] m (some (.int rr)) rm :=
  gMet.of hJ mf_X7_nameByte dk_X7_nameByte (Nat.le_of_ble_eq_true rfl) (fun X _ C hr => tf_X7_nameByte (F := F) C hr h)
def b_X0_lengthOf_2 (sh : List gS) (F : Nat) (k2 : Nat → Int32 → Int32 → gM → Option (Int32 × gM)) (x0 : Nat) (x1 : Int32) (x2 : Int32) (m : gM) : Option (Int32 × gM) :=
  g_if (oB sh x0 0) ((f_X0_has sh F x0 x1 m).bind (fun q4 => nm q4.1 (fun r3 => nm q4.2 (fun m2 => if r3 = 0 then (some (x2, m2)) else (if (12 : Int32) ≤ x2 then (some (x2, m2)) else ((m2.2.2 x0 2).bind (fun t7 => g_if (aB sh t7 .long x1) ((m2.2.2 x0 3).bind (fun t9 => g_if (aB sh t9 .long x1) ((f_X7_nameByte sh F (m2.2.1 t7 (x1).toNatClampNeg) (m2.2.1 t9 (x1).toNatClampNeg) x2 m2).bind (fun q13 => nm q13.1 (fun r12 => nm q13.2 (fun m11 => if r12 = 0 then (some (x2, m11)) else (nm (x2 + Int32.ofInt 1) (fun v15 => k2 x0 x1 v15 m11)))))))))))))))
set_option maxRecDepth 100000 in
set_option maxHeartbeats 4000000 in
theorem tb_X0_lengthOf_2 {X : gX} {w : gW} {rr : Int32} {rm : gM} (C : gC X w K_X0_lengthOf 3 RX0 1) (hr : X.2.2.2.2.2.2.2.2.1.sig.returnType = (some .int)) {F : Nat} {k2 : Nat → Int32 → Int32 → gM → Option (Int32 × gM)} (hk2 : ∀ (z0 : Nat) (z1 : Int32) (z2 : Int32) (m : gM), k2 z0 z1 z2 m = some (rr, rm) → gV X w 0 0 (gR X w (some (.int rr)) rm) 3 2 [(0, .ref z0), (1, .int z1), (2, .int z2)] [] m) {x0 : Nat} {x1 : Int32} {x2 : Int32} {m : gM} (h : b_X0_lengthOf_2 w.2.2.2.2.1 F k2 x0 x1 x2 m = some (rr, rm)) : gV X w 0 0 (gR X w (some (.int rr)) rm) 3 2 [(0, .ref x0), (1, .int x1), (2, .int x2)] [] m := by
  unfold b_X0_lengthOf_2 at h
  refine v_aload_n (pc := 2) C 2 0 rfl rfl rfl ?_
  refine v_iload_n (pc := 3) C 3 1 rfl rfl rfl ?_
  obtain ⟨o1, h⟩ := g_okk h
  obtain ⟨⟨r3, m2⟩, qm2, h⟩ := g_bd h
  replace h := g_nm (y := m2) (g_nm (y := r3) h rfl) rfl
  refine v_callV (pc := 4) C 4 rfl mf_X0_has clX0 rfl im_X0_has lm_ScopeGraph_Marks_41 (c_X0_has C.2.2.2.2.2.2.2.2.2.2.2 qm2) (by decide) rfl (g_oB o1) (Nat.le_of_ble_eq_true rfl) ⟨Nat.zero_le _, Nat.zero_le _⟩ rfl ?_
  change gV X w 0 0 (gR X w (some (.int rr)) rm) 3 7 [(0, .ref x0), (1, .int x1), (2, .int x2)] [.int r3] m2
  refine v_if_eq (pc := 7) C 5 41 rfl (by decide) (fun c5 => ?_) (fun c5 => ?_)
  · replace h := g_ifT c5 h
    refine v_iload_n (pc := 41) C 22 2 rfl rfl rfl ?_
    obtain ⟨rfl, rfl⟩ := g_so h
    exact v_iret (pc := 42) C 23 rfl hr
  · replace h := g_ifF c5 h
    refine v_iload_n (pc := 10) C 6 2 rfl rfl rfl ?_
    refine v_bipush (pc := 11) C 7 12 rfl (by decide) ?_
    refine v_icmp_ge (pc := 13) C 8 41 rfl (by decide) (fun c6 => ?_) (fun c6 => ?_)
    · replace h := g_ifT c6 h
      refine v_iload_n (pc := 41) C 22 2 rfl rfl rfl ?_
      obtain ⟨rfl, rfl⟩ := g_so h
      exact v_iret (pc := 42) C 23 rfl hr
    · replace h := g_ifF c6 h
      refine v_aload_n (pc := 16) C 9 0 rfl rfl rfl ?_
      obtain ⟨t7, qt7, h⟩ := g_bd h
      refine v_getR (pc := 17) C 10 rfl lf_ScopeGraph_Marks_18 (g_oB o1) rfl qt7 ?_
      refine v_iload_n (pc := 20) C 11 1 rfl rfl rfl ?_
      obtain ⟨b8, h⟩ := g_okk h
      refine v_lald' (pc := 21) C 12 rfl b8 ?_
      refine v_aload_n (pc := 22) C 13 0 rfl rfl rfl ?_
      obtain ⟨t9, qt9, h⟩ := g_bd h
      refine v_getR (pc := 23) C 14 rfl lf_ScopeGraph_Marks_22 (g_oB o1) rfl qt9 ?_
      refine v_iload_n (pc := 26) C 15 1 rfl rfl rfl ?_
      obtain ⟨b10, h⟩ := g_okk h
      refine v_lald' (pc := 27) C 16 rfl b10 ?_
      refine v_iload_n (pc := 28) C 17 2 rfl rfl rfl ?_
      obtain ⟨⟨r12, m11⟩, qm11, h⟩ := g_bd h
      replace h := g_nm (y := m11) (g_nm (y := r12) h rfl) rfl
      refine v_callS (pc := 29) C 18 rfl mf_X7_nameByte sm_X7_nameByte lm_ScopeGraph_Marks_45 (c_X7_nameByte C.2.2.2.2.2.2.2.2.2.2.2 qm11) (by decide) rfl (Nat.le_of_ble_eq_true rfl) ⟨Nat.zero_le _, Nat.zero_le _⟩ rfl ?_
      change gV X w 0 0 (gR X w (some (.int rr)) rm) 3 32 [(0, .ref x0), (1, .int x1), (2, .int x2)] [.int r12] m11
      refine v_if_eq (pc := 32) C 19 41 rfl (by decide) (fun c14 => ?_) (fun c14 => ?_)
      · replace h := g_ifT c14 h
        refine v_iload_n (pc := 41) C 22 2 rfl rfl rfl ?_
        obtain ⟨rfl, rfl⟩ := g_so h
        exact v_iret (pc := 42) C 23 rfl hr
      · replace h := g_ifF c14 h
        refine v_iincN (pc := 35) C 20 2 (fun v15 => [(2, .int v15), (0, .ref x0), (1, .int x1)]) rfl rfl (by decide) (fun _ => rfl) (fun v15 ev15 => ?_)
        replace h := g_nm h ev15
        refine v_goto (pc := 38) C 21 2 rfl (by decide) ?_
        refine v_sub [(0, .ref x0), (1, .int x1), (2, .int v15)] [1, 2, 0] rfl ?_
        exact hk2 _ _ _ _ h
def l_X0_lengthOf_2 (sh : List gS) (F : Nat) : Nat → Nat → Int32 → Int32 → gM → Option (Int32 × gM)
  | 0 => fun _ _ _ _ => none
  | n + 1 => fun x0 x1 x2 m => b_X0_lengthOf_2 sh F (l_X0_lengthOf_2 sh F n) x0 x1 x2 m
theorem tl_X0_lengthOf_2 {X : gX} {w : gW} {rr : Int32} {rm : gM} (C : gC X w K_X0_lengthOf 3 RX0 1) (hr : X.2.2.2.2.2.2.2.2.1.sig.returnType = (some .int)) {F : Nat} : ∀ (n : Nat) (x0 : Nat) (x1 : Int32) (x2 : Int32) (m : gM), l_X0_lengthOf_2 w.2.2.2.2.1 F n x0 x1 x2 m = some (rr, rm) → gV X w 0 0 (gR X w (some (.int rr)) rm) 3 2 [(0, .ref x0), (1, .int x1), (2, .int x2)] [] m := by
  intro n
  induction n with
  | zero => intro x0 x1 x2 m h; cases h
  | succ n ih => intro x0 x1 x2 m h; exact tb_X0_lengthOf_2 (F := F) C hr ih h
def f_X0_lengthOf (sh : List gS) (F : Nat) (x0 : Nat) (x1 : Int32) (m : gM) : Option (Int32 × gM) :=
  l_X0_lengthOf_2 sh F F x0 x1 0 m
set_option maxRecDepth 100000 in
set_option maxHeartbeats 4000000 in
theorem tf_X0_lengthOf {X : gX} {w : gW} {rr : Int32} {rm : gM} (C : gC X w K_X0_lengthOf 3 RX0 1) (hr : X.2.2.2.2.2.2.2.2.1.sig.returnType = (some .int)) {F : Nat} {x0 : Nat} {x1 : Int32} {m : gM} (h : f_X0_lengthOf w.2.2.2.2.1 F x0 x1 m = some (rr, rm)) : gV X w 0 0 (gR X w (some (.int rr)) rm) 3 0 [(0, .ref x0), (1, .int x1)] [] m := by
  unfold f_X0_lengthOf at h
  refine v_iconst (pc := 0) C 0 0 rfl (by decide) ?_
  refine v_istore_n (pc := 1) (lv' := [(2, .int 0), (0, .ref x0), (1, .int x1)]) C 1 rfl rfl (by decide) rfl ?_
  refine v_sub [(0, .ref x0), (1, .int x1), (2, .int 0)] [1, 2, 0] rfl ?_
  exact tl_X0_lengthOf_2 (F := F) C hr _ _ _ _ _ h
theorem c_X0_lengthOf {l : Launch} {w : gW} {rr : Int32} {rm : gM} (hJ : gJok w) {F : Nat} {x0 : Nat} {x1 : Int32} {m : gM} (h : f_X0_lengthOf w.2.2.2.2.1 F x0 x1 m = some (rr, rm)) : gMet l 1 yX0_lengthOf cX0_lengthOf 3 (some .int) w [.ref x0, .int x1] m (some (.int rr)) rm :=
  gMet.of hJ mf_X0_lengthOf dk_X0_lengthOf (Nat.le_of_ble_eq_true rfl) (fun X _ C hr => tf_X0_lengthOf (F := F) C hr h)
def f_X0_isNamed (sh : List gS) (F : Nat) (x0 : Nat) (x1 : Int32) (x2 : Int64) (x4 : Int64) (m : gM) : Option (Int32 × gM) :=
  g_if (oB sh x0 0) ((f_X0_has sh F x0 x1 m).bind (fun q4 => nm q4.1 (fun r3 => nm q4.2 (fun m2 => if r3 = 0 then (some (0, m2)) else ((m2.2.2 x0 2).bind (fun t6 => g_if (aB sh t6 .long x1) (if (m2.2.1 t6 (x1).toNatClampNeg) = x2 then ((m2.2.2 x0 3).bind (fun t9 => g_if (aB sh t9 .long x1) (if (m2.2.1 t9 (x1).toNatClampNeg) = x4 then (some (1, m2)) else (some (0, m2))))) else (some (0, m2)))))))))
set_option maxRecDepth 100000 in
set_option maxHeartbeats 4000000 in
theorem tf_X0_isNamed {X : gX} {w : gW} {rr : Int32} {rm : gM} (C : gC X w K_X0_isNamed 6 RX0 1) (hr : X.2.2.2.2.2.2.2.2.1.sig.returnType = (some .boolean)) {F : Nat} {x0 : Nat} {x1 : Int32} {x2 : Int64} {x4 : Int64} {m : gM} (h : f_X0_isNamed w.2.2.2.2.1 F x0 x1 x2 x4 m = some (rr, rm)) : gV X w 0 0 (gR X w (some (.int rr)) rm) 6 0 [(0, .ref x0), (1, .int x1), (2, .long x2), (4, .long x4)] [] m := by
  unfold f_X0_isNamed at h
  refine v_aload_n (pc := 0) C 0 0 rfl rfl rfl ?_
  refine v_iload_n (pc := 1) C 1 1 rfl rfl rfl ?_
  obtain ⟨o1, h⟩ := g_okk h
  obtain ⟨⟨r3, m2⟩, qm2, h⟩ := g_bd h
  replace h := g_nm (y := m2) (g_nm (y := r3) h rfl) rfl
  refine v_callV (pc := 2) C 2 rfl mf_X0_has clX0 rfl im_X0_has lm_ScopeGraph_Marks_41 (c_X0_has C.2.2.2.2.2.2.2.2.2.2.2 qm2) (by decide) rfl (g_oB o1) (Nat.le_of_ble_eq_true rfl) ⟨Nat.zero_le _, Nat.zero_le _⟩ rfl ?_
  change gV X w 0 0 (gR X w (some (.int rr)) rm) 6 5 [(0, .ref x0), (1, .int x1), (2, .long x2), (4, .long x4)] [.int r3] m2
  refine v_if_eq (pc := 5) C 3 35 rfl (by decide) (fun c5 => ?_) (fun c5 => ?_)
  · replace h := g_ifT c5 h
    refine v_iconst (pc := 35) C 20 0 rfl (by decide) ?_
    obtain ⟨rfl, rfl⟩ := g_so h
    exact v_zret (pc := 36) C 21 rfl hr (by decide)
  · replace h := g_ifF c5 h
    refine v_aload_n (pc := 8) C 4 0 rfl rfl rfl ?_
    obtain ⟨t6, qt6, h⟩ := g_bd h
    refine v_getR (pc := 9) C 5 rfl lf_ScopeGraph_Marks_18 (g_oB o1) rfl qt6 ?_
    refine v_iload_n (pc := 12) C 6 1 rfl rfl rfl ?_
    obtain ⟨b7, h⟩ := g_okk h
    refine v_lald' (pc := 13) C 7 rfl b7 ?_
    refine v_lload_n (pc := 14) C 8 2 rfl rfl rfl ?_
    refine v_lcmp (pc := 15) C 9 rfl ?_
    refine v_lif_ne (pc := 16) C 10 35 rfl (by decide) (fun c8 => ?_) (fun c8 => ?_)
    · replace h := g_ifF c8 h
      refine v_iconst (pc := 35) C 20 0 rfl (by decide) ?_
      obtain ⟨rfl, rfl⟩ := g_so h
      exact v_zret (pc := 36) C 21 rfl hr (by decide)
    · replace h := g_ifT c8 h
      refine v_aload_n (pc := 19) C 11 0 rfl rfl rfl ?_
      obtain ⟨t9, qt9, h⟩ := g_bd h
      refine v_getR (pc := 20) C 12 rfl lf_ScopeGraph_Marks_22 (g_oB o1) rfl qt9 ?_
      refine v_iload_n (pc := 23) C 13 1 rfl rfl rfl ?_
      obtain ⟨b10, h⟩ := g_okk h
      refine v_lald' (pc := 24) C 14 rfl b10 ?_
      refine v_lload (pc := 25) C 15 3 rfl rfl ?_
      refine v_lcmp (pc := 27) C 16 rfl ?_
      refine v_lif_ne (pc := 28) C 17 35 rfl (by decide) (fun c11 => ?_) (fun c11 => ?_)
      · replace h := g_ifF c11 h
        refine v_iconst (pc := 35) C 20 0 rfl (by decide) ?_
        obtain ⟨rfl, rfl⟩ := g_so h
        exact v_zret (pc := 36) C 21 rfl hr (by decide)
      · replace h := g_ifT c11 h
        refine v_iconst (pc := 31) C 18 1 rfl (by decide) ?_
        refine v_goto (pc := 32) C 19 36 rfl (by decide) ?_
        obtain ⟨rfl, rfl⟩ := g_so h
        exact v_zret (pc := 36) C 21 rfl hr (by decide)
theorem c_X0_isNamed {l : Launch} {w : gW} {rr : Int32} {rm : gM} (hJ : gJok w) {F : Nat} {x0 : Nat} {x1 : Int32} {x2 : Int64} {x4 : Int64} {m : gM} (h : f_X0_isNamed w.2.2.2.2.1 F x0 x1 x2 x4 m = some (rr, rm)) : gMet l 1 yX0_isNamed cX0_isNamed 6 (some .boolean) w [.ref x0, .int x1, .long x2, .long x4] m (some (.int rr)) rm :=
  gMet.of hJ mf_X0_isNamed dk_X0_isNamed (Nat.le_of_ble_eq_true rfl) (fun X _ C hr => tf_X0_isNamed (F := F) C hr h)
def b_X0_named_48 (sh : List gS) (F : Nat) (k6 : Nat → Int64 → Int64 → Int64 → Int32 → gM → Option (Int64 × gM)) (x0 : Nat) (x1 : Int64) (x3 : Int64) (x5 : Int64) (x7 : Int32) (m : gM) : Option (Int64 × gM) :=
  nm (x7 + Int32.ofInt 1) (fun v1 => k6 x0 x1 x3 x5 v1 m)
set_option maxRecDepth 100000 in
set_option maxHeartbeats 4000000 in
theorem tb_X0_named_48 {X : gX} {w : gW} {rr : Int64} {rm : gM} (C : gC X w K_X0_named 8 RX0 0) (hr : X.2.2.2.2.2.2.2.2.1.sig.returnType = (some .long)) {F : Nat} {k6 : Nat → Int64 → Int64 → Int64 → Int32 → gM → Option (Int64 × gM)} (hk6 : ∀ (z0 : Nat) (z1 : Int64) (z3 : Int64) (z5 : Int64) (z7 : Int32) (m : gM), k6 z0 z1 z3 z5 z7 m = some (rr, rm) → gV X w 0 0 (gR X w (some (.long rr)) rm) 8 6 [(0, .ref z0), (1, .long z1), (3, .long z3), (5, .long z5), (7, .int z7)] [] m) {x0 : Nat} {x1 : Int64} {x3 : Int64} {x5 : Int64} {x7 : Int32} {m : gM} (h : b_X0_named_48 w.2.2.2.2.1 F k6 x0 x1 x3 x5 x7 m = some (rr, rm)) : gV X w 0 0 (gR X w (some (.long rr)) rm) 8 48 [(0, .ref x0), (1, .long x1), (3, .long x3), (5, .long x5), (7, .int x7)] [] m := by
  unfold b_X0_named_48 at h
  refine v_iincN (pc := 48) C 28 4 (fun v1 => [(7, .int v1), (0, .ref x0), (1, .long x1), (3, .long x3), (5, .long x5)]) rfl rfl (by decide) (fun _ => rfl) (fun v1 ev1 => ?_)
  replace h := g_nm h ev1
  refine v_goto (pc := 51) C 29 6 rfl (by decide) ?_
  refine v_sub [(0, .ref x0), (1, .long x1), (3, .long x3), (5, .long x5), (7, .int v1)] [1, 2, 3, 4, 0] rfl ?_
  exact hk6 _ _ _ _ _ _ h
def b_X0_named_6 (sh : List gS) (F : Nat) (k6 : Nat → Int64 → Int64 → Int64 → Int32 → gM → Option (Int64 × gM)) (x0 : Nat) (x1 : Int64) (x3 : Int64) (x5 : Int64) (x7 : Int32) (m : gM) : Option (Int64 × gM) :=
  g_if (oB sh x0 0) (if (m.1 x0 4) ≤ x7 then (some (x5, m)) else ((m.2.2 x0 2).bind (fun t3 => g_if (aB sh t3 .long x7) (if (m.2.1 t3 (x7).toNatClampNeg) = x1 then ((m.2.2 x0 3).bind (fun t6 => g_if (aB sh t6 .long x7) (if (m.2.1 t6 (x7).toNatClampNeg) = x3 then (nm (x5 ||| ((1 : Int64) <<< (x7.toInt64 &&& 63))) (fun v9 => b_X0_named_48 sh F k6 x0 x1 x3 v9 x7 m)) else (b_X0_named_48 sh F k6 x0 x1 x3 x5 x7 m)))) else (b_X0_named_48 sh F k6 x0 x1 x3 x5 x7 m)))))
set_option maxRecDepth 100000 in
set_option maxHeartbeats 4000000 in
theorem tb_X0_named_6 {X : gX} {w : gW} {rr : Int64} {rm : gM} (C : gC X w K_X0_named 8 RX0 0) (hr : X.2.2.2.2.2.2.2.2.1.sig.returnType = (some .long)) {F : Nat} {k6 : Nat → Int64 → Int64 → Int64 → Int32 → gM → Option (Int64 × gM)} (hk6 : ∀ (z0 : Nat) (z1 : Int64) (z3 : Int64) (z5 : Int64) (z7 : Int32) (m : gM), k6 z0 z1 z3 z5 z7 m = some (rr, rm) → gV X w 0 0 (gR X w (some (.long rr)) rm) 8 6 [(0, .ref z0), (1, .long z1), (3, .long z3), (5, .long z5), (7, .int z7)] [] m) {x0 : Nat} {x1 : Int64} {x3 : Int64} {x5 : Int64} {x7 : Int32} {m : gM} (h : b_X0_named_6 w.2.2.2.2.1 F k6 x0 x1 x3 x5 x7 m = some (rr, rm)) : gV X w 0 0 (gR X w (some (.long rr)) rm) 8 6 [(0, .ref x0), (1, .long x1), (3, .long x3), (5, .long x5), (7, .int x7)] [] m := by
  unfold b_X0_named_6 at h
  refine v_iload (pc := 6) C 4 4 rfl rfl ?_
  refine v_aload_n (pc := 8) C 5 0 rfl rfl rfl ?_
  obtain ⟨o1, h⟩ := g_okk h
  refine v_getI (pc := 9) C 6 rfl lf_ScopeGraph_Marks_25.get (g_oB o1) rfl ?_
  refine v_icmp_ge (pc := 12) C 7 54 rfl (by decide) (fun c2 => ?_) (fun c2 => ?_)
  · replace h := g_ifT c2 h
    refine v_lload (pc := 54) C 30 3 rfl rfl ?_
    obtain ⟨rfl, rfl⟩ := g_so h
    exact v_lret (pc := 56) C 31 rfl hr
  · replace h := g_ifF c2 h
    refine v_aload_n (pc := 15) C 8 0 rfl rfl rfl ?_
    obtain ⟨t3, qt3, h⟩ := g_bd h
    refine v_getR (pc := 16) C 9 rfl lf_ScopeGraph_Marks_18 (g_oB o1) rfl qt3 ?_
    refine v_iload (pc := 19) C 10 4 rfl rfl ?_
    obtain ⟨b4, h⟩ := g_okk h
    refine v_lald' (pc := 21) C 11 rfl b4 ?_
    refine v_lload_n (pc := 22) C 12 1 rfl rfl rfl ?_
    refine v_lcmp (pc := 23) C 13 rfl ?_
    refine v_lif_ne (pc := 24) C 14 48 rfl (by decide) (fun c5 => ?_) (fun c5 => ?_)
    · replace h := g_ifF c5 h
      refine v_sub [(0, .ref x0), (1, .long x1), (3, .long x3), (5, .long x5), (7, .int x7)] [0, 1, 2, 3, 4] rfl ?_
      exact tb_X0_named_48 (F := F) C hr hk6 h
    · replace h := g_ifT c5 h
      refine v_aload_n (pc := 27) C 15 0 rfl rfl rfl ?_
      obtain ⟨t6, qt6, h⟩ := g_bd h
      refine v_getR (pc := 28) C 16 rfl lf_ScopeGraph_Marks_22 (g_oB o1) rfl qt6 ?_
      refine v_iload (pc := 31) C 17 4 rfl rfl ?_
      obtain ⟨b7, h⟩ := g_okk h
      refine v_lald' (pc := 33) C 18 rfl b7 ?_
      refine v_lload_n (pc := 34) C 19 2 rfl rfl rfl ?_
      refine v_lcmp (pc := 35) C 20 rfl ?_
      refine v_lif_ne (pc := 36) C 21 48 rfl (by decide) (fun c8 => ?_) (fun c8 => ?_)
      · replace h := g_ifF c8 h
        refine v_sub [(0, .ref x0), (1, .long x1), (3, .long x3), (5, .long x5), (7, .int x7)] [0, 1, 2, 3, 4] rfl ?_
        exact tb_X0_named_48 (F := F) C hr hk6 h
      · replace h := g_ifT c8 h
        refine v_lload (pc := 39) C 22 3 rfl rfl ?_
        refine v_lconst (pc := 41) C 23 1 rfl (by decide) ?_
        refine v_iload (pc := 42) C 24 4 rfl rfl ?_
        refine v_lshl (pc := 44) C 25 rfl ?_
        refine v_lor (pc := 45) C 26 rfl ?_
        refine v_topJ (fun v9 ev9 => ?_)
        replace h := g_nm h ev9
        refine v_lstore (pc := 46) (lv' := [(5, .long v9), (0, .ref x0), (1, .long x1), (3, .long x3), (7, .int x7)]) C 27 rfl (by decide) rfl ?_
        refine v_sub [(0, .ref x0), (1, .long x1), (3, .long x3), (5, .long v9), (7, .int x7)] [1, 2, 3, 0, 4] rfl ?_
        exact tb_X0_named_48 (F := F) C hr hk6 h
def l_X0_named_6 (sh : List gS) (F : Nat) : Nat → Nat → Int64 → Int64 → Int64 → Int32 → gM → Option (Int64 × gM)
  | 0 => fun _ _ _ _ _ _ => none
  | n + 1 => fun x0 x1 x3 x5 x7 m => b_X0_named_6 sh F (l_X0_named_6 sh F n) x0 x1 x3 x5 x7 m
theorem tl_X0_named_6 {X : gX} {w : gW} {rr : Int64} {rm : gM} (C : gC X w K_X0_named 8 RX0 0) (hr : X.2.2.2.2.2.2.2.2.1.sig.returnType = (some .long)) {F : Nat} : ∀ (n : Nat) (x0 : Nat) (x1 : Int64) (x3 : Int64) (x5 : Int64) (x7 : Int32) (m : gM), l_X0_named_6 w.2.2.2.2.1 F n x0 x1 x3 x5 x7 m = some (rr, rm) → gV X w 0 0 (gR X w (some (.long rr)) rm) 8 6 [(0, .ref x0), (1, .long x1), (3, .long x3), (5, .long x5), (7, .int x7)] [] m := by
  intro n
  induction n with
  | zero => intro x0 x1 x3 x5 x7 m h; cases h
  | succ n ih => intro x0 x1 x3 x5 x7 m h; exact tb_X0_named_6 (F := F) C hr ih h
def f_X0_named (sh : List gS) (F : Nat) (x0 : Nat) (x1 : Int64) (x3 : Int64) (m : gM) : Option (Int64 × gM) :=
  l_X0_named_6 sh F F x0 x1 x3 0 0 m
set_option maxRecDepth 100000 in
set_option maxHeartbeats 4000000 in
theorem tf_X0_named {X : gX} {w : gW} {rr : Int64} {rm : gM} (C : gC X w K_X0_named 8 RX0 0) (hr : X.2.2.2.2.2.2.2.2.1.sig.returnType = (some .long)) {F : Nat} {x0 : Nat} {x1 : Int64} {x3 : Int64} {m : gM} (h : f_X0_named w.2.2.2.2.1 F x0 x1 x3 m = some (rr, rm)) : gV X w 0 0 (gR X w (some (.long rr)) rm) 8 0 [(0, .ref x0), (1, .long x1), (3, .long x3)] [] m := by
  unfold f_X0_named at h
  refine v_lconst (pc := 0) C 0 0 rfl (by decide) ?_
  refine v_lstore (pc := 1) (lv' := [(5, .long 0), (0, .ref x0), (1, .long x1), (3, .long x3)]) C 1 rfl (by decide) rfl ?_
  refine v_iconst (pc := 3) C 2 0 rfl (by decide) ?_
  refine v_istore (pc := 4) (lv' := [(7, .int 0), (5, .long 0), (0, .ref x0), (1, .long x1), (3, .long x3)]) C 3 rfl (by decide) rfl ?_
  refine v_sub [(0, .ref x0), (1, .long x1), (3, .long x3), (5, .long 0), (7, .int 0)] [2, 3, 4, 1, 0] rfl ?_
  exact tl_X0_named_6 (F := F) C hr _ _ _ _ _ _ _ h
theorem c_X0_named {l : Launch} {w : gW} {rr : Int64} {rm : gM} (hJ : gJok w) {F : Nat} {x0 : Nat} {x1 : Int64} {x3 : Int64} {m : gM} (h : f_X0_named w.2.2.2.2.1 F x0 x1 x3 m = some (rr, rm)) : gMet l 0 yX0_named cX0_named 8 (some .long) w [.ref x0, .long x1, .long x3] m (some (.long rr)) rm :=
  gMet.of hJ mf_X0_named dk_X0_named (Nat.le_of_ble_eq_true rfl) (fun X _ C hr => tf_X0_named (F := F) C hr h)
def b_X1_compareNames_7 (sh : List gS) (F : Nat) (k7 : Nat → Nat → Nat → Int32 → gM → Option (gM)) (x0 : Nat) (x1 : Nat) (x2 : Nat) (x3 : Int32) (m : gM) : Option (gM) :=
  g_if (oB sh x2 0) (if (m.1 x2 4) ≤ x3 then (some m) else (g_if (oB sh x0 1) ((m.2.2 x0 0).bind (fun t4 => g_if (oB sh x1 2) ((m.2.2 x1 0).bind (fun t6 => (m.2.2 x2 2).bind (fun t7 => g_if (aB sh t7 .long x3) ((m.2.2 x2 3).bind (fun t9 => g_if (aB sh t9 .long x3) (g_if (oB sh t6 0) ((f_X0_named sh F t6 (m.2.1 t7 (x3).toNatClampNeg) (m.2.1 t9 (x3).toNatClampNeg) m).bind (fun q14 => nm q14.1 (fun r13 => nm q14.2 (fun m12 => g_if (aB sh t4 .long x3) (nm (gsL m12 t4 (x3).toNatClampNeg r13) (fun m16 => nm (x3 + Int32.ofInt 1) (fun v17 => k7 x0 x1 x2 v17 m16)))))))))))))))))
set_option maxRecDepth 100000 in
set_option maxHeartbeats 4000000 in
theorem tb_X1_compareNames_7 {X : gX} {w : gW} {rm : gM} (C : gC X w K_X1_compareNames 4 RX1 1) (hr : X.2.2.2.2.2.2.2.2.1.sig.returnType = none) {F : Nat} {k7 : Nat → Nat → Nat → Int32 → gM → Option (gM)} (hk7 : ∀ (z0 : Nat) (z1 : Nat) (z2 : Nat) (z3 : Int32) (m : gM), k7 z0 z1 z2 z3 m = some rm → gV X w 0 0 (gR X w none rm) 4 7 [(0, .ref z0), (1, .ref z1), (2, .ref z2), (3, .int z3)] [] m) {x0 : Nat} {x1 : Nat} {x2 : Nat} {x3 : Int32} {m : gM} (h : b_X1_compareNames_7 w.2.2.2.2.1 F k7 x0 x1 x2 x3 m = some rm) : gV X w 0 0 (gR X w none rm) 4 7 [(0, .ref x0), (1, .ref x1), (2, .ref x2), (3, .int x3)] [] m := by
  unfold b_X1_compareNames_7 at h
  refine v_iload_n (pc := 7) C 5 3 rfl rfl rfl ?_
  refine v_aload_n (pc := 8) C 6 2 rfl rfl rfl ?_
  obtain ⟨o1, h⟩ := g_okk h
  refine v_getI (pc := 9) C 7 rfl lf_ScopeGraph_Meaning_31.get (g_oB o1) rfl ?_
  refine v_icmp_ge (pc := 12) C 8 46 rfl (by decide) (fun c2 => ?_) (fun c2 => ?_)
  · replace h := g_ifT c2 h
    cases g_s1' h
    exact v_vret (pc := 46) C 26 rfl hr
  · replace h := g_ifF c2 h
    refine v_aload_n (pc := 15) C 9 0 rfl rfl rfl ?_
    obtain ⟨o3, h⟩ := g_okk h
    obtain ⟨t4, qt4, h⟩ := g_bd h
    refine v_getR (pc := 16) C 10 rfl lf_ScopeGraph_Meaning_9 (g_oB o3) rfl qt4 ?_
    refine v_iload_n (pc := 19) C 11 3 rfl rfl rfl ?_
    refine v_aload_n (pc := 20) C 12 1 rfl rfl rfl ?_
    obtain ⟨o5, h⟩ := g_okk h
    obtain ⟨t6, qt6, h⟩ := g_bd h
    refine v_getR (pc := 21) C 13 rfl lf_ScopeGraph_Meaning_37 (g_oB o5) rfl qt6 ?_
    refine v_aload_n (pc := 24) C 14 2 rfl rfl rfl ?_
    obtain ⟨t7, qt7, h⟩ := g_bd h
    refine v_getR (pc := 25) C 15 rfl lf_ScopeGraph_Meaning_40 (g_oB o1) rfl qt7 ?_
    refine v_iload_n (pc := 28) C 16 3 rfl rfl rfl ?_
    obtain ⟨b8, h⟩ := g_okk h
    refine v_lald' (pc := 29) C 17 rfl b8 ?_
    refine v_aload_n (pc := 30) C 18 2 rfl rfl rfl ?_
    obtain ⟨t9, qt9, h⟩ := g_bd h
    refine v_getR (pc := 31) C 19 rfl lf_ScopeGraph_Meaning_43 (g_oB o1) rfl qt9 ?_
    refine v_iload_n (pc := 34) C 20 3 rfl rfl rfl ?_
    obtain ⟨b10, h⟩ := g_okk h
    refine v_lald' (pc := 35) C 21 rfl b10 ?_
    obtain ⟨o11, h⟩ := g_okk h
    obtain ⟨⟨r13, m12⟩, qm12, h⟩ := g_bd h
    replace h := g_nm (y := m12) (g_nm (y := r13) h rfl) rfl
    refine v_callV (pc := 36) C 22 rfl mf_X0_named clX0 rfl im_X0_named lm_ScopeGraph_Meaning_46 (c_X0_named C.2.2.2.2.2.2.2.2.2.2.2 qm12) (by decide) rfl (g_oB o11) (Nat.le_of_ble_eq_true rfl) ⟨Nat.zero_le _, Nat.zero_le _⟩ rfl ?_
    change gV X w 0 0 (gR X w none rm) 4 39 [(0, .ref x0), (1, .ref x1), (2, .ref x2), (3, .int x3)] [.long r13, .int x3, .ref t4] m12
    obtain ⟨b15, h⟩ := g_okk h
    refine v_last' (pc := 39) C 23 rfl b15 ?_
    refine v_topM (fun m16 em16 => ?_)
    replace h := g_nm h em16
    refine v_iincN (pc := 40) C 24 3 (fun v17 => [(3, .int v17), (0, .ref x0), (1, .ref x1), (2, .ref x2)]) rfl rfl (by decide) (fun _ => rfl) (fun v17 ev17 => ?_)
    replace h := g_nm h ev17
    refine v_goto (pc := 43) C 25 7 rfl (by decide) ?_
    refine v_sub [(0, .ref x0), (1, .ref x1), (2, .ref x2), (3, .int v17)] [1, 2, 3, 0] rfl ?_
    exact hk7 _ _ _ _ _ h
def l_X1_compareNames_7 (sh : List gS) (F : Nat) : Nat → Nat → Nat → Nat → Int32 → gM → Option (gM)
  | 0 => fun _ _ _ _ _ => none
  | n + 1 => fun x0 x1 x2 x3 m => b_X1_compareNames_7 sh F (l_X1_compareNames_7 sh F n) x0 x1 x2 x3 m
theorem tl_X1_compareNames_7 {X : gX} {w : gW} {rm : gM} (C : gC X w K_X1_compareNames 4 RX1 1) (hr : X.2.2.2.2.2.2.2.2.1.sig.returnType = none) {F : Nat} : ∀ (n : Nat) (x0 : Nat) (x1 : Nat) (x2 : Nat) (x3 : Int32) (m : gM), l_X1_compareNames_7 w.2.2.2.2.1 F n x0 x1 x2 x3 m = some rm → gV X w 0 0 (gR X w none rm) 4 7 [(0, .ref x0), (1, .ref x1), (2, .ref x2), (3, .int x3)] [] m := by
  intro n
  induction n with
  | zero => intro x0 x1 x2 x3 m h; cases h
  | succ n ih => intro x0 x1 x2 x3 m h; exact tb_X1_compareNames_7 (F := F) C hr ih h
def f_X1_compareNames (sh : List gS) (F : Nat) (x0 : Nat) (x1 : Nat) (m : gM) : Option (gM) :=
  g_if (oB sh x1 2) ((m.2.2 x1 1).bind (fun t2 => l_X1_compareNames_7 sh F F x0 x1 t2 0 m))
set_option maxRecDepth 100000 in
set_option maxHeartbeats 4000000 in
theorem tf_X1_compareNames {X : gX} {w : gW} {rm : gM} (C : gC X w K_X1_compareNames 4 RX1 1) (hr : X.2.2.2.2.2.2.2.2.1.sig.returnType = none) {F : Nat} {x0 : Nat} {x1 : Nat} {m : gM} (h : f_X1_compareNames w.2.2.2.2.1 F x0 x1 m = some rm) : gV X w 0 0 (gR X w none rm) 4 0 [(0, .ref x0), (1, .ref x1)] [] m := by
  unfold f_X1_compareNames at h
  refine v_aload_n (pc := 0) C 0 1 rfl rfl rfl ?_
  obtain ⟨o1, h⟩ := g_okk h
  obtain ⟨t2, qt2, h⟩ := g_bd h
  refine v_getR (pc := 1) C 1 rfl lf_ScopeGraph_Meaning_25 (g_oB o1) rfl qt2 ?_
  refine v_astore_n (pc := 4) (lv' := [(2, .ref t2), (0, .ref x0), (1, .ref x1)]) C 2 rfl rfl (by decide) rfl ?_
  refine v_iconst (pc := 5) C 3 0 rfl (by decide) ?_
  refine v_istore_n (pc := 6) (lv' := [(3, .int 0), (2, .ref t2), (0, .ref x0), (1, .ref x1)]) C 4 rfl rfl (by decide) rfl ?_
  refine v_sub [(0, .ref x0), (1, .ref x1), (2, .ref t2), (3, .int 0)] [2, 3, 1, 0] rfl ?_
  exact tl_X1_compareNames_7 (F := F) C hr _ _ _ _ _ _ h
theorem c_X1_compareNames {l : Launch} {w : gW} {rm : gM} (hJ : gJok w) {F : Nat} {x0 : Nat} {x1 : Nat} {m : gM} (h : f_X1_compareNames w.2.2.2.2.1 F x0 x1 m = some rm) : gMet l 1 yX1_compareNames cX1_compareNames 4 none w [.ref x0, .ref x1] m none rm :=
  gMet.of hJ mf_X1_compareNames dk_X1_compareNames (Nat.le_of_ble_eq_true rfl) (fun X _ C hr => tf_X1_compareNames (F := F) C hr h)
def b_X1_supposeName_108 (sh : List gS) (F : Nat) (k24 : Nat → Nat → Nat → Int64 → Nat → Int64 → Int32 → gM → Option (gM)) (x0 : Nat) (x1 : Nat) (x2 : Nat) (x3 : Int64) (x5 : Nat) (x6 : Int64) (x8 : Int32) (y0 : Int64) (y1 : Int32) (y2 : Nat) (m : gM) : Option (gM) :=
  g_if (aB sh y2 .long y1) (nm (gsL m y2 (y1).toNatClampNeg y0) (fun m2 => nm (x8 + Int32.ofInt 1) (fun v3 => k24 x0 x1 x2 x3 x5 x6 v3 m2)))
set_option maxRecDepth 100000 in
set_option maxHeartbeats 4000000 in
theorem tb_X1_supposeName_108 {X : gX} {w : gW} {rm : gM} (C : gC X w K_X1_supposeName 10 RX1 2) (hr : X.2.2.2.2.2.2.2.2.1.sig.returnType = none) {F : Nat} {k24 : Nat → Nat → Nat → Int64 → Nat → Int64 → Int32 → gM → Option (gM)} (hk24 : ∀ (z0 : Nat) (z1 : Nat) (z2 : Nat) (z3 : Int64) (z5 : Nat) (z6 : Int64) (z8 : Int32) (m : gM), k24 z0 z1 z2 z3 z5 z6 z8 m = some rm → gV X w 0 0 (gR X w none rm) 10 24 [(0, .ref z0), (1, .ref z1), (2, .ref z2), (3, .long z3), (5, .ref z5), (6, .long z6), (8, .int z8)] [] m) {x0 : Nat} {x1 : Nat} {x2 : Nat} {x3 : Int64} {x5 : Nat} {x6 : Int64} {x8 : Int32} {y0 : Int64} {y1 : Int32} {y2 : Nat} {m : gM} (h : b_X1_supposeName_108 w.2.2.2.2.1 F k24 x0 x1 x2 x3 x5 x6 x8 y0 y1 y2 m = some rm) : gV X w 0 0 (gR X w none rm) 10 108 [(0, .ref x0), (1, .ref x1), (2, .ref x2), (3, .long x3), (5, .ref x5), (6, .long x6), (8, .int x8)] [.long y0, .int y1, .ref y2] m := by
  unfold b_X1_supposeName_108 at h
  obtain ⟨b1, h⟩ := g_okk h
  refine v_last' (pc := 108) C 54 rfl b1 ?_
  refine v_topM (fun m2 em2 => ?_)
  replace h := g_nm h em2
  refine v_iincN (pc := 109) C 55 6 (fun v3 => [(8, .int v3), (0, .ref x0), (1, .ref x1), (2, .ref x2), (3, .long x3), (5, .ref x5), (6, .long x6)]) rfl rfl (by decide) (fun _ => rfl) (fun v3 ev3 => ?_)
  replace h := g_nm h ev3
  refine v_goto (pc := 112) C 56 24 rfl (by decide) ?_
  refine v_sub [(0, .ref x0), (1, .ref x1), (2, .ref x2), (3, .long x3), (5, .ref x5), (6, .long x6), (8, .int v3)] [1, 2, 3, 4, 5, 6, 0] rfl ?_
  exact hk24 _ _ _ _ _ _ _ _ h
def b_X1_supposeName_77 (sh : List gS) (F : Nat) (k24 : Nat → Nat → Nat → Int64 → Nat → Int64 → Int32 → gM → Option (gM)) (x0 : Nat) (x1 : Nat) (x2 : Nat) (x3 : Int64) (x5 : Nat) (x6 : Int64) (x8 : Int32) (y0 : Int32) (m : gM) : Option (gM) :=
  g_if (oB sh x0 1) ((m.2.2 x0 0).bind (fun t2 => if y0 = 0 then (g_if (oB sh x2 1) ((m.2.2 x2 0).bind (fun t5 => g_if (aB sh t5 .long x8) (b_X1_supposeName_108 sh F k24 x0 x1 x2 x3 x5 x6 x8 ((m.2.1 t5 (x8).toNatClampNeg) &&& (x3 ^^^ (-1))) x8 t2 m)))) else (b_X1_supposeName_108 sh F k24 x0 x1 x2 x3 x5 x6 x8 x6 x8 t2 m)))
set_option maxRecDepth 100000 in
set_option maxHeartbeats 4000000 in
theorem tb_X1_supposeName_77 {X : gX} {w : gW} {rm : gM} (C : gC X w K_X1_supposeName 10 RX1 2) (hr : X.2.2.2.2.2.2.2.2.1.sig.returnType = none) {F : Nat} {k24 : Nat → Nat → Nat → Int64 → Nat → Int64 → Int32 → gM → Option (gM)} (hk24 : ∀ (z0 : Nat) (z1 : Nat) (z2 : Nat) (z3 : Int64) (z5 : Nat) (z6 : Int64) (z8 : Int32) (m : gM), k24 z0 z1 z2 z3 z5 z6 z8 m = some rm → gV X w 0 0 (gR X w none rm) 10 24 [(0, .ref z0), (1, .ref z1), (2, .ref z2), (3, .long z3), (5, .ref z5), (6, .long z6), (8, .int z8)] [] m) {x0 : Nat} {x1 : Nat} {x2 : Nat} {x3 : Int64} {x5 : Nat} {x6 : Int64} {x8 : Int32} {y0 : Int32} {m : gM} (h : b_X1_supposeName_77 w.2.2.2.2.1 F k24 x0 x1 x2 x3 x5 x6 x8 y0 m = some rm) : gV X w 0 0 (gR X w none rm) 10 77 [(0, .ref x0), (1, .ref x1), (2, .ref x2), (3, .long x3), (5, .ref x5), (6, .long x6), (8, .int x8)] [.int y0] m := by
  unfold b_X1_supposeName_77 at h
  refine v_istore (pc := 77) (lv' := [(9, .int y0), (0, .ref x0), (1, .ref x1), (2, .ref x2), (3, .long x3), (5, .ref x5), (6, .long x6), (8, .int x8)]) C 38 rfl (by decide) rfl ?_
  refine v_aload_n (pc := 79) C 39 1 rfl rfl rfl ?_
  obtain ⟨o1, h⟩ := g_okk h
  obtain ⟨t2, qt2, h⟩ := g_bd h
  refine v_getR (pc := 80) C 40 rfl lf_ScopeGraph_Meaning_9 (g_oB o1) rfl qt2 ?_
  refine v_iload (pc := 83) C 41 7 rfl rfl ?_
  refine v_iload (pc := 85) C 42 0 rfl rfl ?_
  refine v_if_eq (pc := 87) C 43 95 rfl (by decide) (fun c3 => ?_) (fun c3 => ?_)
  · replace h := g_ifT c3 h
    refine v_aload_n (pc := 95) C 46 3 rfl rfl rfl ?_
    obtain ⟨o4, h⟩ := g_okk h
    obtain ⟨t5, qt5, h⟩ := g_bd h
    refine v_getR (pc := 96) C 47 rfl lf_ScopeGraph_Meaning_9 (g_oB o4) rfl qt5 ?_
    refine v_iload (pc := 99) C 48 7 rfl rfl ?_
    obtain ⟨b6, h⟩ := g_okk h
    refine v_lald' (pc := 101) C 49 rfl b6 ?_
    refine v_lload_n (pc := 102) C 50 4 rfl rfl rfl ?_
    refine v_ldc2 (pc := 103) C 51 (v := -1) rfl (g_tb 943 (by decide +kernel) rfl) ?_
    refine v_lxor (pc := 106) C 52 rfl ?_
    refine v_land (pc := 107) C 53 rfl ?_
    refine v_sub [(0, .ref x0), (1, .ref x1), (2, .ref x2), (3, .long x3), (5, .ref x5), (6, .long x6), (8, .int x8)] [1, 2, 3, 4, 5, 6, 7] rfl ?_
    exact tb_X1_supposeName_108 (F := F) C hr hk24 h
  · replace h := g_ifF c3 h
    refine v_lload (pc := 90) C 44 6 rfl rfl ?_
    refine v_goto (pc := 92) C 45 108 rfl (by decide) ?_
    refine v_sub [(0, .ref x0), (1, .ref x1), (2, .ref x2), (3, .long x3), (5, .ref x5), (6, .long x6), (8, .int x8)] [1, 2, 3, 4, 5, 6, 7] rfl ?_
    exact tb_X1_supposeName_108 (F := F) C hr hk24 h
def b_X1_supposeName_72 (sh : List gS) (F : Nat) (k24 : Nat → Nat → Nat → Int64 → Nat → Int64 → Int32 → gM → Option (gM)) (x0 : Nat) (x1 : Nat) (x2 : Nat) (x3 : Int64) (x5 : Nat) (x6 : Int64) (x8 : Int32) (m : gM) : Option (gM) :=
  b_X1_supposeName_77 sh F k24 x0 x1 x2 x3 x5 x6 x8 1 m
set_option maxRecDepth 100000 in
set_option maxHeartbeats 4000000 in
theorem tb_X1_supposeName_72 {X : gX} {w : gW} {rm : gM} (C : gC X w K_X1_supposeName 10 RX1 2) (hr : X.2.2.2.2.2.2.2.2.1.sig.returnType = none) {F : Nat} {k24 : Nat → Nat → Nat → Int64 → Nat → Int64 → Int32 → gM → Option (gM)} (hk24 : ∀ (z0 : Nat) (z1 : Nat) (z2 : Nat) (z3 : Int64) (z5 : Nat) (z6 : Int64) (z8 : Int32) (m : gM), k24 z0 z1 z2 z3 z5 z6 z8 m = some rm → gV X w 0 0 (gR X w none rm) 10 24 [(0, .ref z0), (1, .ref z1), (2, .ref z2), (3, .long z3), (5, .ref z5), (6, .long z6), (8, .int z8)] [] m) {x0 : Nat} {x1 : Nat} {x2 : Nat} {x3 : Int64} {x5 : Nat} {x6 : Int64} {x8 : Int32} {m : gM} (h : b_X1_supposeName_72 w.2.2.2.2.1 F k24 x0 x1 x2 x3 x5 x6 x8 m = some rm) : gV X w 0 0 (gR X w none rm) 10 72 [(0, .ref x0), (1, .ref x1), (2, .ref x2), (3, .long x3), (5, .ref x5), (6, .long x6), (8, .int x8)] [] m := by
  unfold b_X1_supposeName_72 at h
  refine v_iconst (pc := 72) C 35 1 rfl (by decide) ?_
  refine v_goto (pc := 73) C 36 77 rfl (by decide) ?_
  refine v_sub [(0, .ref x0), (1, .ref x1), (2, .ref x2), (3, .long x3), (5, .ref x5), (6, .long x6), (8, .int x8)] [0, 1, 2, 3, 4, 5, 6] rfl ?_
  exact tb_X1_supposeName_77 (F := F) C hr hk24 h
def b_X1_supposeName_24 (sh : List gS) (F : Nat) (k24 : Nat → Nat → Nat → Int64 → Nat → Int64 → Int32 → gM → Option (gM)) (x0 : Nat) (x1 : Nat) (x2 : Nat) (x3 : Int64) (x5 : Nat) (x6 : Int64) (x8 : Int32) (m : gM) : Option (gM) :=
  g_if (oB sh x1 2) ((m.2.2 x1 1).bind (fun t2 => g_if (oB sh t2 0) (if (m.1 t2 4) ≤ x8 then (some m) else (g_if (oB sh x2 1) ((m.2.2 x2 1).bind (fun t6 => g_if (aB sh t6 .long x8) (if ((m.2.1 t6 (x8).toNatClampNeg) &&& x3) = (0 : Int64) then ((m.2.2 x1 1).bind (fun t9 => g_if (oB sh x5 6) (g_if (oB sh t9 0) ((f_X0_isNamed sh F t9 x8 (m.2.1 x5 3) (m.2.1 x5 4) m).bind (fun q14 => nm q14.1 (fun r13 => nm q14.2 (fun m12 => if r13 = 0 then (b_X1_supposeName_77 sh F k24 x0 x1 x2 x3 x5 x6 x8 0 m12) else (b_X1_supposeName_72 sh F k24 x0 x1 x2 x3 x5 x6 x8 m12)))))))) else (b_X1_supposeName_72 sh F k24 x0 x1 x2 x3 x5 x6 x8 m))))))))
set_option maxRecDepth 100000 in
set_option maxHeartbeats 4000000 in
theorem tb_X1_supposeName_24 {X : gX} {w : gW} {rm : gM} (C : gC X w K_X1_supposeName 10 RX1 2) (hr : X.2.2.2.2.2.2.2.2.1.sig.returnType = none) {F : Nat} {k24 : Nat → Nat → Nat → Int64 → Nat → Int64 → Int32 → gM → Option (gM)} (hk24 : ∀ (z0 : Nat) (z1 : Nat) (z2 : Nat) (z3 : Int64) (z5 : Nat) (z6 : Int64) (z8 : Int32) (m : gM), k24 z0 z1 z2 z3 z5 z6 z8 m = some rm → gV X w 0 0 (gR X w none rm) 10 24 [(0, .ref z0), (1, .ref z1), (2, .ref z2), (3, .long z3), (5, .ref z5), (6, .long z6), (8, .int z8)] [] m) {x0 : Nat} {x1 : Nat} {x2 : Nat} {x3 : Int64} {x5 : Nat} {x6 : Int64} {x8 : Int32} {m : gM} (h : b_X1_supposeName_24 w.2.2.2.2.1 F k24 x0 x1 x2 x3 x5 x6 x8 m = some rm) : gV X w 0 0 (gR X w none rm) 10 24 [(0, .ref x0), (1, .ref x1), (2, .ref x2), (3, .long x3), (5, .ref x5), (6, .long x6), (8, .int x8)] [] m := by
  unfold b_X1_supposeName_24 at h
  refine v_iload (pc := 24) C 12 6 rfl rfl ?_
  refine v_aload_n (pc := 26) C 13 1 rfl rfl rfl ?_
  obtain ⟨o1, h⟩ := g_okk h
  obtain ⟨t2, qt2, h⟩ := g_bd h
  refine v_getR (pc := 27) C 14 rfl lf_ScopeGraph_Meaning_25 (g_oB o1) rfl qt2 ?_
  obtain ⟨o3, h⟩ := g_okk h
  refine v_getI (pc := 30) C 15 rfl lf_ScopeGraph_Meaning_31.get (g_oB o3) rfl ?_
  refine v_icmp_ge (pc := 33) C 16 115 rfl (by decide) (fun c4 => ?_) (fun c4 => ?_)
  · replace h := g_ifT c4 h
    cases g_s1' h
    exact v_vret (pc := 115) C 57 rfl hr
  · replace h := g_ifF c4 h
    refine v_aload_n (pc := 36) C 17 2 rfl rfl rfl ?_
    obtain ⟨o5, h⟩ := g_okk h
    obtain ⟨t6, qt6, h⟩ := g_bd h
    refine v_getR (pc := 37) C 18 rfl lf_ScopeGraph_Meaning_15 (g_oB o5) rfl qt6 ?_
    refine v_iload (pc := 40) C 19 6 rfl rfl ?_
    obtain ⟨b7, h⟩ := g_okk h
    refine v_lald' (pc := 42) C 20 rfl b7 ?_
    refine v_lload_n (pc := 43) C 21 3 rfl rfl rfl ?_
    refine v_land (pc := 44) C 22 rfl ?_
    refine v_lconst (pc := 45) C 23 0 rfl (by decide) ?_
    refine v_lcmp (pc := 46) C 24 rfl ?_
    refine v_lif_ne (pc := 47) C 25 72 rfl (by decide) (fun c8 => ?_) (fun c8 => ?_)
    · replace h := g_ifF c8 h
      refine v_sub [(0, .ref x0), (1, .ref x1), (2, .ref x2), (3, .long x3), (5, .ref x5), (6, .long x6), (8, .int x8)] [0, 1, 2, 3, 4, 5, 6] rfl ?_
      exact tb_X1_supposeName_72 (F := F) C hr hk24 h
    · replace h := g_ifT c8 h
      refine v_aload_n (pc := 50) C 26 1 rfl rfl rfl ?_
      obtain ⟨t9, qt9, h⟩ := g_bd h
      refine v_getR (pc := 51) C 27 rfl lf_ScopeGraph_Meaning_25 (g_oB o1) rfl qt9 ?_
      refine v_iload (pc := 54) C 28 6 rfl rfl ?_
      refine v_aload (pc := 56) C 29 4 rfl rfl ?_
      obtain ⟨o10, h⟩ := g_okk h
      refine v_getL (pc := 58) C 30 rfl lf_ScopeGraph_Meaning_50.get (g_oB o10) rfl ?_
      refine v_aload (pc := 61) C 31 4 rfl rfl ?_
      refine v_getL (pc := 63) C 32 rfl lf_ScopeGraph_Meaning_56.get (g_oB o10) rfl ?_
      obtain ⟨o11, h⟩ := g_okk h
      obtain ⟨⟨r13, m12⟩, qm12, h⟩ := g_bd h
      replace h := g_nm (y := m12) (g_nm (y := r13) h rfl) rfl
      refine v_callV (pc := 66) C 33 rfl mf_X0_isNamed clX0 rfl im_X0_isNamed lm_ScopeGraph_Meaning_59 (c_X0_isNamed C.2.2.2.2.2.2.2.2.2.2.2 qm12) (by decide) rfl (g_oB o11) (Nat.le_of_ble_eq_true rfl) ⟨Nat.zero_le _, Nat.zero_le _⟩ rfl ?_
      change gV X w 0 0 (gR X w none rm) 10 69 [(0, .ref x0), (1, .ref x1), (2, .ref x2), (3, .long x3), (5, .ref x5), (6, .long x6), (8, .int x8)] [.int r13] m12
      refine v_if_eq (pc := 69) C 34 76 rfl (by decide) (fun c15 => ?_) (fun c15 => ?_)
      · replace h := g_ifT c15 h
        refine v_iconst (pc := 76) C 37 0 rfl (by decide) ?_
        refine v_sub [(0, .ref x0), (1, .ref x1), (2, .ref x2), (3, .long x3), (5, .ref x5), (6, .long x6), (8, .int x8)] [0, 1, 2, 3, 4, 5, 6] rfl ?_
        exact tb_X1_supposeName_77 (F := F) C hr hk24 h
      · replace h := g_ifF c15 h
        refine v_sub [(0, .ref x0), (1, .ref x1), (2, .ref x2), (3, .long x3), (5, .ref x5), (6, .long x6), (8, .int x8)] [0, 1, 2, 3, 4, 5, 6] rfl ?_
        exact tb_X1_supposeName_72 (F := F) C hr hk24 h
def l_X1_supposeName_24 (sh : List gS) (F : Nat) : Nat → Nat → Nat → Nat → Int64 → Nat → Int64 → Int32 → gM → Option (gM)
  | 0 => fun _ _ _ _ _ _ _ _ => none
  | n + 1 => fun x0 x1 x2 x3 x5 x6 x8 m => b_X1_supposeName_24 sh F (l_X1_supposeName_24 sh F n) x0 x1 x2 x3 x5 x6 x8 m
theorem tl_X1_supposeName_24 {X : gX} {w : gW} {rm : gM} (C : gC X w K_X1_supposeName 10 RX1 2) (hr : X.2.2.2.2.2.2.2.2.1.sig.returnType = none) {F : Nat} : ∀ (n : Nat) (x0 : Nat) (x1 : Nat) (x2 : Nat) (x3 : Int64) (x5 : Nat) (x6 : Int64) (x8 : Int32) (m : gM), l_X1_supposeName_24 w.2.2.2.2.1 F n x0 x1 x2 x3 x5 x6 x8 m = some rm → gV X w 0 0 (gR X w none rm) 10 24 [(0, .ref x0), (1, .ref x1), (2, .ref x2), (3, .long x3), (5, .ref x5), (6, .long x6), (8, .int x8)] [] m := by
  intro n
  induction n with
  | zero => intro x0 x1 x2 x3 x5 x6 x8 m h; cases h
  | succ n ih => intro x0 x1 x2 x3 x5 x6 x8 m h; exact tb_X1_supposeName_24 (F := F) C hr ih h
def f_X1_supposeName (sh : List gS) (F : Nat) (x0 : Nat) (x1 : Nat) (x2 : Nat) (x3 : Int64) (x5 : Nat) (m : gM) : Option (gM) :=
  g_if (oB sh x1 2) ((m.2.2 x1 0).bind (fun t2 => g_if (oB sh x5 6) (g_if (oB sh t2 0) ((f_X0_named sh F t2 (m.2.1 x5 3) (m.2.1 x5 4) m).bind (fun q7 => nm q7.1 (fun r6 => nm q7.2 (fun m5 => nm (r6 ||| x3) (fun v8 => l_X1_supposeName_24 sh F F x0 x1 x2 x3 x5 v8 0 m5))))))))
set_option maxRecDepth 100000 in
set_option maxHeartbeats 4000000 in
theorem tf_X1_supposeName {X : gX} {w : gW} {rm : gM} (C : gC X w K_X1_supposeName 10 RX1 2) (hr : X.2.2.2.2.2.2.2.2.1.sig.returnType = none) {F : Nat} {x0 : Nat} {x1 : Nat} {x2 : Nat} {x3 : Int64} {x5 : Nat} {m : gM} (h : f_X1_supposeName w.2.2.2.2.1 F x0 x1 x2 x3 x5 m = some rm) : gV X w 0 0 (gR X w none rm) 10 0 [(0, .ref x0), (1, .ref x1), (2, .ref x2), (3, .long x3), (5, .ref x5)] [] m := by
  unfold f_X1_supposeName at h
  refine v_aload_n (pc := 0) C 0 1 rfl rfl rfl ?_
  obtain ⟨o1, h⟩ := g_okk h
  obtain ⟨t2, qt2, h⟩ := g_bd h
  refine v_getR (pc := 1) C 1 rfl lf_ScopeGraph_Meaning_37 (g_oB o1) rfl qt2 ?_
  refine v_aload (pc := 4) C 2 4 rfl rfl ?_
  obtain ⟨o3, h⟩ := g_okk h
  refine v_getL (pc := 6) C 3 rfl lf_ScopeGraph_Meaning_50.get (g_oB o3) rfl ?_
  refine v_aload (pc := 9) C 4 4 rfl rfl ?_
  refine v_getL (pc := 11) C 5 rfl lf_ScopeGraph_Meaning_56.get (g_oB o3) rfl ?_
  obtain ⟨o4, h⟩ := g_okk h
  obtain ⟨⟨r6, m5⟩, qm5, h⟩ := g_bd h
  replace h := g_nm (y := m5) (g_nm (y := r6) h rfl) rfl
  refine v_callV (pc := 14) C 6 rfl mf_X0_named clX0 rfl im_X0_named lm_ScopeGraph_Meaning_46 (c_X0_named C.2.2.2.2.2.2.2.2.2.2.2 qm5) (by decide) rfl (g_oB o4) (Nat.le_of_ble_eq_true rfl) ⟨Nat.zero_le _, Nat.zero_le _⟩ rfl ?_
  change gV X w 0 0 (gR X w none rm) 10 17 [(0, .ref x0), (1, .ref x1), (2, .ref x2), (3, .long x3), (5, .ref x5)] [.long r6] m5
  refine v_lload_n (pc := 17) C 7 3 rfl rfl rfl ?_
  refine v_lor (pc := 18) C 8 rfl ?_
  refine v_topJ (fun v8 ev8 => ?_)
  replace h := g_nm h ev8
  refine v_lstore (pc := 19) (lv' := [(6, .long v8), (0, .ref x0), (1, .ref x1), (2, .ref x2), (3, .long x3), (5, .ref x5)]) C 9 rfl (by decide) rfl ?_
  refine v_iconst (pc := 21) C 10 0 rfl (by decide) ?_
  refine v_istore (pc := 22) (lv' := [(8, .int 0), (6, .long v8), (0, .ref x0), (1, .ref x1), (2, .ref x2), (3, .long x3), (5, .ref x5)]) C 11 rfl (by decide) rfl ?_
  refine v_sub [(0, .ref x0), (1, .ref x1), (2, .ref x2), (3, .long x3), (5, .ref x5), (6, .long v8), (8, .int 0)] [2, 3, 4, 5, 6, 1, 0] rfl ?_
  exact tl_X1_supposeName_24 (F := F) C hr _ _ _ _ _ _ _ _ _ h
theorem c_X1_supposeName {l : Launch} {w : gW} {rm : gM} (hJ : gJok w) {F : Nat} {x0 : Nat} {x1 : Nat} {x2 : Nat} {x3 : Int64} {x5 : Nat} {m : gM} (h : f_X1_supposeName w.2.2.2.2.1 F x0 x1 x2 x3 x5 m = some rm) : gMet l 2 yX1_supposeName cX1_supposeName 10 none w [.ref x0, .ref x1, .ref x2, .long x3, .ref x5] m none rm :=
  gMet.of hJ mf_X1_supposeName dk_X1_supposeName (Nat.le_of_ble_eq_true rfl) (fun X _ C hr => tf_X1_supposeName (F := F) C hr h)
def b_X1_agreesWith_2 (sh : List gS) (F : Nat) (k2 : Nat → Nat → Int32 → Int32 → gM → Option (Int32 × gM)) (x0 : Nat) (x1 : Nat) (x2 : Int32) (x3 : Int32) (m : gM) : Option (Int32 × gM) :=
  if x2 ≤ x3 then (some (1, m)) else (if (100 : Int32) ≤ x3 then (some (1, m)) else (g_if (oB sh x0 1) ((m.2.2 x0 1).bind (fun t4 => g_if (aB sh t4 .long x3) (g_if (oB sh x1 1) ((m.2.2 x1 1).bind (fun t7 => g_if (aB sh t7 .long x3) (if (m.2.1 t4 (x3).toNatClampNeg) = (m.2.1 t7 (x3).toNatClampNeg) then (nm (x3 + Int32.ofInt 1) (fun v10 => k2 x0 x1 x2 v10 m)) else (some (0, m))))))))))
set_option maxRecDepth 100000 in
set_option maxHeartbeats 4000000 in
theorem tb_X1_agreesWith_2 {X : gX} {w : gW} {rr : Int32} {rm : gM} (C : gC X w K_X1_agreesWith 4 RX1 0) (hr : X.2.2.2.2.2.2.2.2.1.sig.returnType = (some .boolean)) {F : Nat} {k2 : Nat → Nat → Int32 → Int32 → gM → Option (Int32 × gM)} (hk2 : ∀ (z0 : Nat) (z1 : Nat) (z2 : Int32) (z3 : Int32) (m : gM), k2 z0 z1 z2 z3 m = some (rr, rm) → gV X w 0 0 (gR X w (some (.int rr)) rm) 4 2 [(0, .ref z0), (1, .ref z1), (2, .int z2), (3, .int z3)] [] m) {x0 : Nat} {x1 : Nat} {x2 : Int32} {x3 : Int32} {m : gM} (h : b_X1_agreesWith_2 w.2.2.2.2.1 F k2 x0 x1 x2 x3 m = some (rr, rm)) : gV X w 0 0 (gR X w (some (.int rr)) rm) 4 2 [(0, .ref x0), (1, .ref x1), (2, .int x2), (3, .int x3)] [] m := by
  unfold b_X1_agreesWith_2 at h
  refine v_iload_n (pc := 2) C 2 3 rfl rfl rfl ?_
  refine v_iload_n (pc := 3) C 3 2 rfl rfl rfl ?_
  refine v_icmp_ge (pc := 4) C 4 37 rfl (by decide) (fun c1 => ?_) (fun c1 => ?_)
  · replace h := g_ifT c1 h
    refine v_iconst (pc := 37) C 22 1 rfl (by decide) ?_
    obtain ⟨rfl, rfl⟩ := g_so h
    exact v_zret (pc := 38) C 23 rfl hr (by decide)
  · replace h := g_ifF c1 h
    refine v_iload_n (pc := 7) C 5 3 rfl rfl rfl ?_
    refine v_bipush (pc := 8) C 6 100 rfl (by decide) ?_
    refine v_icmp_ge (pc := 10) C 7 37 rfl (by decide) (fun c2 => ?_) (fun c2 => ?_)
    · replace h := g_ifT c2 h
      refine v_iconst (pc := 37) C 22 1 rfl (by decide) ?_
      obtain ⟨rfl, rfl⟩ := g_so h
      exact v_zret (pc := 38) C 23 rfl hr (by decide)
    · replace h := g_ifF c2 h
      refine v_aload_n (pc := 13) C 8 0 rfl rfl rfl ?_
      obtain ⟨o3, h⟩ := g_okk h
      obtain ⟨t4, qt4, h⟩ := g_bd h
      refine v_getR (pc := 14) C 9 rfl lf_ScopeGraph_Meaning_15 (g_oB o3) rfl qt4 ?_
      refine v_iload_n (pc := 17) C 10 3 rfl rfl rfl ?_
      obtain ⟨b5, h⟩ := g_okk h
      refine v_lald' (pc := 18) C 11 rfl b5 ?_
      refine v_aload_n (pc := 19) C 12 1 rfl rfl rfl ?_
      obtain ⟨o6, h⟩ := g_okk h
      obtain ⟨t7, qt7, h⟩ := g_bd h
      refine v_getR (pc := 20) C 13 rfl lf_ScopeGraph_Meaning_15 (g_oB o6) rfl qt7 ?_
      refine v_iload_n (pc := 23) C 14 3 rfl rfl rfl ?_
      obtain ⟨b8, h⟩ := g_okk h
      refine v_lald' (pc := 24) C 15 rfl b8 ?_
      refine v_lcmp (pc := 25) C 16 rfl ?_
      refine v_lif_eq (pc := 26) C 17 31 rfl (by decide) (fun c9 => ?_) (fun c9 => ?_)
      · replace h := g_ifT c9 h
        refine v_iincN (pc := 31) C 20 3 (fun v10 => [(3, .int v10), (0, .ref x0), (1, .ref x1), (2, .int x2)]) rfl rfl (by decide) (fun _ => rfl) (fun v10 ev10 => ?_)
        replace h := g_nm h ev10
        refine v_goto (pc := 34) C 21 2 rfl (by decide) ?_
        refine v_sub [(0, .ref x0), (1, .ref x1), (2, .int x2), (3, .int v10)] [1, 2, 3, 0] rfl ?_
        exact hk2 _ _ _ _ _ h
      · replace h := g_ifF c9 h
        refine v_iconst (pc := 29) C 18 0 rfl (by decide) ?_
        obtain ⟨rfl, rfl⟩ := g_so h
        exact v_zret (pc := 30) C 19 rfl hr (by decide)
def l_X1_agreesWith_2 (sh : List gS) (F : Nat) : Nat → Nat → Nat → Int32 → Int32 → gM → Option (Int32 × gM)
  | 0 => fun _ _ _ _ _ => none
  | n + 1 => fun x0 x1 x2 x3 m => b_X1_agreesWith_2 sh F (l_X1_agreesWith_2 sh F n) x0 x1 x2 x3 m
theorem tl_X1_agreesWith_2 {X : gX} {w : gW} {rr : Int32} {rm : gM} (C : gC X w K_X1_agreesWith 4 RX1 0) (hr : X.2.2.2.2.2.2.2.2.1.sig.returnType = (some .boolean)) {F : Nat} : ∀ (n : Nat) (x0 : Nat) (x1 : Nat) (x2 : Int32) (x3 : Int32) (m : gM), l_X1_agreesWith_2 w.2.2.2.2.1 F n x0 x1 x2 x3 m = some (rr, rm) → gV X w 0 0 (gR X w (some (.int rr)) rm) 4 2 [(0, .ref x0), (1, .ref x1), (2, .int x2), (3, .int x3)] [] m := by
  intro n
  induction n with
  | zero => intro x0 x1 x2 x3 m h; cases h
  | succ n ih => intro x0 x1 x2 x3 m h; exact tb_X1_agreesWith_2 (F := F) C hr ih h
def f_X1_agreesWith (sh : List gS) (F : Nat) (x0 : Nat) (x1 : Nat) (x2 : Int32) (m : gM) : Option (Int32 × gM) :=
  l_X1_agreesWith_2 sh F F x0 x1 x2 0 m
set_option maxRecDepth 100000 in
set_option maxHeartbeats 4000000 in
theorem tf_X1_agreesWith {X : gX} {w : gW} {rr : Int32} {rm : gM} (C : gC X w K_X1_agreesWith 4 RX1 0) (hr : X.2.2.2.2.2.2.2.2.1.sig.returnType = (some .boolean)) {F : Nat} {x0 : Nat} {x1 : Nat} {x2 : Int32} {m : gM} (h : f_X1_agreesWith w.2.2.2.2.1 F x0 x1 x2 m = some (rr, rm)) : gV X w 0 0 (gR X w (some (.int rr)) rm) 4 0 [(0, .ref x0), (1, .ref x1), (2, .int x2)] [] m := by
  unfold f_X1_agreesWith at h
  refine v_iconst (pc := 0) C 0 0 rfl (by decide) ?_
  refine v_istore_n (pc := 1) (lv' := [(3, .int 0), (0, .ref x0), (1, .ref x1), (2, .int x2)]) C 1 rfl rfl (by decide) rfl ?_
  refine v_sub [(0, .ref x0), (1, .ref x1), (2, .int x2), (3, .int 0)] [1, 2, 3, 0] rfl ?_
  exact tl_X1_agreesWith_2 (F := F) C hr _ _ _ _ _ _ h
theorem c_X1_agreesWith {l : Launch} {w : gW} {rr : Int32} {rm : gM} (hJ : gJok w) {F : Nat} {x0 : Nat} {x1 : Nat} {x2 : Int32} {m : gM} (h : f_X1_agreesWith w.2.2.2.2.1 F x0 x1 x2 m = some (rr, rm)) : gMet l 0 yX1_agreesWith cX1_agreesWith 4 (some .boolean) w [.ref x0, .ref x1, .int x2] m (some (.int rr)) rm :=
  gMet.of hJ mf_X1_agreesWith dk_X1_agreesWith (Nat.le_of_ble_eq_true rfl) (fun X _ C hr => tf_X1_agreesWith (F := F) C hr h)
def f_J13_bitCount_95d88 (sh : List gS) (F : Nat) (x0 : Int64) (m : gM) : Option (Int32 × gM) :=
  nm (x0 - (((x0.toUInt64 >>> ((1 : Int32).toInt64.toUInt64 &&& Int64.toUInt64 63)).toInt64) &&& (6148914691236517205 : Int64))) (fun v1 => nm ((v1 &&& (3689348814741910323 : Int64)) + (((v1.toUInt64 >>> ((2 : Int32).toInt64.toUInt64 &&& Int64.toUInt64 63)).toInt64) &&& (3689348814741910323 : Int64))) (fun v2 => nm ((v2 + ((v2.toUInt64 >>> ((4 : Int32).toInt64.toUInt64 &&& Int64.toUInt64 63)).toInt64)) &&& (1085102592571150095 : Int64)) (fun v3 => nm (v3 + ((v3.toUInt64 >>> ((8 : Int32).toInt64.toUInt64 &&& Int64.toUInt64 63)).toInt64)) (fun v4 => nm (v4 + ((v4.toUInt64 >>> ((16 : Int32).toInt64.toUInt64 &&& Int64.toUInt64 63)).toInt64)) (fun v5 => nm (v5 + ((v5.toUInt64 >>> ((32 : Int32).toInt64.toUInt64 &&& Int64.toUInt64 63)).toInt64)) (fun v6 => some ((v6.toInt32) &&& (127 : Int32), m)))))))
set_option maxRecDepth 100000 in
set_option maxHeartbeats 4000000 in
theorem tf_J13_bitCount_95d88 {X : gX} {w : gW} {rr : Int32} {rm : gM} (C : gC X w K_J13_bitCount_95d88 2 "java/lang/Long" 0) (hr : X.2.2.2.2.2.2.2.2.1.sig.returnType = (some .int)) {F : Nat} {x0 : Int64} {m : gM} (h : f_J13_bitCount_95d88 w.2.2.2.2.1 F x0 m = some (rr, rm)) : gV X w 0 0 (gR X w (some (.int rr)) rm) 2 0 [(0, .long x0)] [] m := by
  unfold f_J13_bitCount_95d88 at h
  refine v_lload_n (pc := 0) C 0 0 rfl rfl rfl ?_
  refine v_lload_n (pc := 1) C 1 0 rfl rfl rfl ?_
  refine v_iconst (pc := 2) C 2 1 rfl (by decide) ?_
  refine v_lushr (pc := 3) C 3 rfl ?_
  refine v_ldc2 (pc := 4) C 4 (v := 6148914691236517205) rfl (g_tb 696 (by decide +kernel) rfl) ?_
  refine v_land (pc := 7) C 5 rfl ?_
  refine v_lsub (pc := 8) C 6 rfl ?_
  refine v_topJ (fun v1 ev1 => ?_)
  replace h := g_nm h ev1
  refine v_lstore_n (pc := 9) (lv' := [(0, .long v1)]) C 7 rfl rfl (by decide) rfl ?_
  refine v_lload_n (pc := 10) C 8 0 rfl rfl rfl ?_
  refine v_ldc2 (pc := 11) C 9 (v := 3689348814741910323) rfl (g_tb 697 (by decide +kernel) rfl) ?_
  refine v_land (pc := 14) C 10 rfl ?_
  refine v_lload_n (pc := 15) C 11 0 rfl rfl rfl ?_
  refine v_iconst (pc := 16) C 12 2 rfl (by decide) ?_
  refine v_lushr (pc := 17) C 13 rfl ?_
  refine v_ldc2 (pc := 18) C 14 (v := 3689348814741910323) rfl (g_tb 697 (by decide +kernel) rfl) ?_
  refine v_land (pc := 21) C 15 rfl ?_
  refine v_ladd (pc := 22) C 16 rfl ?_
  refine v_topJ (fun v2 ev2 => ?_)
  replace h := g_nm h ev2
  refine v_lstore_n (pc := 23) (lv' := [(0, .long v2)]) C 17 rfl rfl (by decide) rfl ?_
  refine v_lload_n (pc := 24) C 18 0 rfl rfl rfl ?_
  refine v_lload_n (pc := 25) C 19 0 rfl rfl rfl ?_
  refine v_iconst (pc := 26) C 20 4 rfl (by decide) ?_
  refine v_lushr (pc := 27) C 21 rfl ?_
  refine v_ladd (pc := 28) C 22 rfl ?_
  refine v_ldc2 (pc := 29) C 23 (v := 1085102592571150095) rfl (g_tb 698 (by decide +kernel) rfl) ?_
  refine v_land (pc := 32) C 24 rfl ?_
  refine v_topJ (fun v3 ev3 => ?_)
  replace h := g_nm h ev3
  refine v_lstore_n (pc := 33) (lv' := [(0, .long v3)]) C 25 rfl rfl (by decide) rfl ?_
  refine v_lload_n (pc := 34) C 26 0 rfl rfl rfl ?_
  refine v_lload_n (pc := 35) C 27 0 rfl rfl rfl ?_
  refine v_bipush (pc := 36) C 28 8 rfl (by decide) ?_
  refine v_lushr (pc := 38) C 29 rfl ?_
  refine v_ladd (pc := 39) C 30 rfl ?_
  refine v_topJ (fun v4 ev4 => ?_)
  replace h := g_nm h ev4
  refine v_lstore_n (pc := 40) (lv' := [(0, .long v4)]) C 31 rfl rfl (by decide) rfl ?_
  refine v_lload_n (pc := 41) C 32 0 rfl rfl rfl ?_
  refine v_lload_n (pc := 42) C 33 0 rfl rfl rfl ?_
  refine v_bipush (pc := 43) C 34 16 rfl (by decide) ?_
  refine v_lushr (pc := 45) C 35 rfl ?_
  refine v_ladd (pc := 46) C 36 rfl ?_
  refine v_topJ (fun v5 ev5 => ?_)
  replace h := g_nm h ev5
  refine v_lstore_n (pc := 47) (lv' := [(0, .long v5)]) C 37 rfl rfl (by decide) rfl ?_
  refine v_lload_n (pc := 48) C 38 0 rfl rfl rfl ?_
  refine v_lload_n (pc := 49) C 39 0 rfl rfl rfl ?_
  refine v_bipush (pc := 50) C 40 32 rfl (by decide) ?_
  refine v_lushr (pc := 52) C 41 rfl ?_
  refine v_ladd (pc := 53) C 42 rfl ?_
  refine v_topJ (fun v6 ev6 => ?_)
  replace h := g_nm h ev6
  refine v_lstore_n (pc := 54) (lv' := [(0, .long v6)]) C 43 rfl rfl (by decide) rfl ?_
  refine v_lload_n (pc := 55) C 44 0 rfl rfl rfl ?_
  refine v_l2i (pc := 56) C 45 rfl ?_
  refine v_bipush (pc := 57) C 46 127 rfl (by decide) ?_
  refine v_iand (pc := 59) C 47 rfl ?_
  obtain ⟨rfl, rfl⟩ := g_so h
  exact v_iret (pc := 60) C 48 rfl hr
theorem c_J13_bitCount_95d88 {l : Launch} {w : gW} {rr : Int32} {rm : gM} (hJ : gJok w) {F : Nat} {x0 : Int64} {m : gM} (h : f_J13_bitCount_95d88 w.2.2.2.2.1 F x0 m = some (rr, rm)) : gMet l 0 yJ13_bitCount_95d88 cJ13_bitCount_95d88 2 (some .int) w [.long x0] m (some (.int rr)) rm :=
  gMet.of hJ mf_J13_bitCount_95d88 dk_J13_bitCount_95d88 (Nat.le_of_ble_eq_true rfl) (fun X _ C hr => tf_J13_bitCount_95d88 (F := F) C hr h)
def b_X1_howManyMean_50 (sh : List gS) (F : Nat) (k6 : Nat → Int32 → Int32 → Int32 → Int32 → Int32 → gM → Option (Int32 × gM)) (x0 : Nat) (x1 : Int32) (x2 : Int32) (x3 : Int32) (x5 : Int32) (y0 : Int32) (y1 : Int32) (m : gM) : Option (Int32 × gM) :=
  nm (y1 + y0) (fun v1 => nm (x5 + Int32.ofInt 1) (fun v2 => k6 x0 x1 x2 x3 v1 v2 m))
set_option maxRecDepth 100000 in
set_option maxHeartbeats 4000000 in
theorem tb_X1_howManyMean_50 {X : gX} {w : gW} {rr : Int32} {rm : gM} (C : gC X w K_X1_howManyMean 7 RX1 1) (hr : X.2.2.2.2.2.2.2.2.1.sig.returnType = (some .int)) {F : Nat} {k6 : Nat → Int32 → Int32 → Int32 → Int32 → Int32 → gM → Option (Int32 × gM)} (hk6 : ∀ (z0 : Nat) (z1 : Int32) (z2 : Int32) (z3 : Int32) (z4 : Int32) (z5 : Int32) (m : gM), k6 z0 z1 z2 z3 z4 z5 m = some (rr, rm) → gV X w 0 0 (gR X w (some (.int rr)) rm) 7 6 [(0, .ref z0), (1, .int z1), (2, .int z2), (3, .int z3), (4, .int z4), (5, .int z5)] [] m) {x0 : Nat} {x1 : Int32} {x2 : Int32} {x3 : Int32} {x5 : Int32} {y0 : Int32} {y1 : Int32} {m : gM} (h : b_X1_howManyMean_50 w.2.2.2.2.1 F k6 x0 x1 x2 x3 x5 y0 y1 m = some (rr, rm)) : gV X w 0 0 (gR X w (some (.int rr)) rm) 7 50 [(0, .ref x0), (1, .int x1), (2, .int x2), (3, .int x3), (5, .int x5)] [.int y0, .int y1] m := by
  unfold b_X1_howManyMean_50 at h
  refine v_iadd (pc := 50) C 26 rfl ?_
  refine v_topI (fun v1 ev1 => ?_)
  replace h := g_nm h ev1
  refine v_istore (pc := 51) (lv' := [(4, .int v1), (0, .ref x0), (1, .int x1), (2, .int x2), (3, .int x3), (5, .int x5)]) C 27 rfl (by decide) rfl ?_
  refine v_iincN (pc := 53) C 28 5 (fun v2 => [(5, .int v2), (4, .int v1), (0, .ref x0), (1, .int x1), (2, .int x2), (3, .int x3)]) rfl rfl (by decide) (fun _ => rfl) (fun v2 ev2 => ?_)
  replace h := g_nm h ev2
  refine v_goto (pc := 56) C 29 6 rfl (by decide) ?_
  refine v_sub [(0, .ref x0), (1, .int x1), (2, .int x2), (3, .int x3), (4, .int v1), (5, .int v2)] [2, 3, 4, 5, 1, 0] rfl ?_
  exact hk6 _ _ _ _ _ _ _ h
def b_X1_howManyMean_49 (sh : List gS) (F : Nat) (k6 : Nat → Int32 → Int32 → Int32 → Int32 → Int32 → gM → Option (Int32 × gM)) (x0 : Nat) (x1 : Int32) (x2 : Int32) (x3 : Int32) (x5 : Int32) (y0 : Int32) (m : gM) : Option (Int32 × gM) :=
  b_X1_howManyMean_50 sh F k6 x0 x1 x2 x3 x5 0 y0 m
set_option maxRecDepth 100000 in
set_option maxHeartbeats 4000000 in
theorem tb_X1_howManyMean_49 {X : gX} {w : gW} {rr : Int32} {rm : gM} (C : gC X w K_X1_howManyMean 7 RX1 1) (hr : X.2.2.2.2.2.2.2.2.1.sig.returnType = (some .int)) {F : Nat} {k6 : Nat → Int32 → Int32 → Int32 → Int32 → Int32 → gM → Option (Int32 × gM)} (hk6 : ∀ (z0 : Nat) (z1 : Int32) (z2 : Int32) (z3 : Int32) (z4 : Int32) (z5 : Int32) (m : gM), k6 z0 z1 z2 z3 z4 z5 m = some (rr, rm) → gV X w 0 0 (gR X w (some (.int rr)) rm) 7 6 [(0, .ref z0), (1, .int z1), (2, .int z2), (3, .int z3), (4, .int z4), (5, .int z5)] [] m) {x0 : Nat} {x1 : Int32} {x2 : Int32} {x3 : Int32} {x5 : Int32} {y0 : Int32} {m : gM} (h : b_X1_howManyMean_49 w.2.2.2.2.1 F k6 x0 x1 x2 x3 x5 y0 m = some (rr, rm)) : gV X w 0 0 (gR X w (some (.int rr)) rm) 7 49 [(0, .ref x0), (1, .int x1), (2, .int x2), (3, .int x3), (5, .int x5)] [.int y0] m := by
  unfold b_X1_howManyMean_49 at h
  refine v_iconst (pc := 49) C 25 0 rfl (by decide) ?_
  refine v_sub [(0, .ref x0), (1, .int x1), (2, .int x2), (3, .int x3), (5, .int x5)] [0, 1, 2, 3, 4] rfl ?_
  exact tb_X1_howManyMean_50 (F := F) C hr hk6 h
def b_X1_howManyMean_6 (sh : List gS) (F : Nat) (k6 : Nat → Int32 → Int32 → Int32 → Int32 → Int32 → gM → Option (Int32 × gM)) (x0 : Nat) (x1 : Int32) (x2 : Int32) (x3 : Int32) (x4 : Int32) (x5 : Int32) (m : gM) : Option (Int32 × gM) :=
  if x3 ≤ x5 then (some (x4, m)) else (if (100 : Int32) ≤ x5 then (some (x4, m)) else (g_if (oB sh x0 1) ((m.2.2 x0 1).bind (fun t4 => g_if (aB sh t4 .long x5) ((f_J13_bitCount_95d88 sh F (m.2.1 t4 (x5).toNatClampNeg) m).bind (fun q8 => nm q8.1 (fun r7 => nm q8.2 (fun m6 => if r7 < x1 then (b_X1_howManyMean_49 sh F k6 x0 x1 x2 x3 x5 x4 m6) else (if x2 < r7 then (b_X1_howManyMean_49 sh F k6 x0 x1 x2 x3 x5 x4 m6) else (b_X1_howManyMean_50 sh F k6 x0 x1 x2 x3 x5 1 x4 m6))))))))))
set_option maxRecDepth 100000 in
set_option maxHeartbeats 4000000 in
theorem tb_X1_howManyMean_6 {X : gX} {w : gW} {rr : Int32} {rm : gM} (C : gC X w K_X1_howManyMean 7 RX1 1) (hr : X.2.2.2.2.2.2.2.2.1.sig.returnType = (some .int)) {F : Nat} {k6 : Nat → Int32 → Int32 → Int32 → Int32 → Int32 → gM → Option (Int32 × gM)} (hk6 : ∀ (z0 : Nat) (z1 : Int32) (z2 : Int32) (z3 : Int32) (z4 : Int32) (z5 : Int32) (m : gM), k6 z0 z1 z2 z3 z4 z5 m = some (rr, rm) → gV X w 0 0 (gR X w (some (.int rr)) rm) 7 6 [(0, .ref z0), (1, .int z1), (2, .int z2), (3, .int z3), (4, .int z4), (5, .int z5)] [] m) {x0 : Nat} {x1 : Int32} {x2 : Int32} {x3 : Int32} {x4 : Int32} {x5 : Int32} {m : gM} (h : b_X1_howManyMean_6 w.2.2.2.2.1 F k6 x0 x1 x2 x3 x4 x5 m = some (rr, rm)) : gV X w 0 0 (gR X w (some (.int rr)) rm) 7 6 [(0, .ref x0), (1, .int x1), (2, .int x2), (3, .int x3), (4, .int x4), (5, .int x5)] [] m := by
  unfold b_X1_howManyMean_6 at h
  refine v_iload (pc := 6) C 4 5 rfl rfl ?_
  refine v_iload_n (pc := 8) C 5 3 rfl rfl rfl ?_
  refine v_icmp_ge (pc := 9) C 6 59 rfl (by decide) (fun c1 => ?_) (fun c1 => ?_)
  · replace h := g_ifT c1 h
    refine v_iload (pc := 59) C 30 4 rfl rfl ?_
    obtain ⟨rfl, rfl⟩ := g_so h
    exact v_iret (pc := 61) C 31 rfl hr
  · replace h := g_ifF c1 h
    refine v_iload (pc := 12) C 7 5 rfl rfl ?_
    refine v_bipush (pc := 14) C 8 100 rfl (by decide) ?_
    refine v_icmp_ge (pc := 16) C 9 59 rfl (by decide) (fun c2 => ?_) (fun c2 => ?_)
    · replace h := g_ifT c2 h
      refine v_iload (pc := 59) C 30 4 rfl rfl ?_
      obtain ⟨rfl, rfl⟩ := g_so h
      exact v_iret (pc := 61) C 31 rfl hr
    · replace h := g_ifF c2 h
      refine v_aload_n (pc := 19) C 10 0 rfl rfl rfl ?_
      obtain ⟨o3, h⟩ := g_okk h
      obtain ⟨t4, qt4, h⟩ := g_bd h
      refine v_getR (pc := 20) C 11 rfl lf_ScopeGraph_Meaning_15 (g_oB o3) rfl qt4 ?_
      refine v_iload (pc := 23) C 12 5 rfl rfl ?_
      obtain ⟨b5, h⟩ := g_okk h
      refine v_lald' (pc := 25) C 13 rfl b5 ?_
      obtain ⟨⟨r7, m6⟩, qm6, h⟩ := g_bd h
      replace h := g_nm (y := m6) (g_nm (y := r7) h rfl) rfl
      refine v_callS (pc := 26) C 14 rfl mf_J13_bitCount_95d88 sm_J13_bitCount_95d88 lm_ScopeGraph_Meaning_65 (c_J13_bitCount_95d88 C.2.2.2.2.2.2.2.2.2.2.2 qm6) (by decide) rfl (Nat.le_of_ble_eq_true rfl) ⟨Nat.zero_le _, Nat.zero_le _⟩ rfl ?_
      change gV X w 0 0 (gR X w (some (.int rr)) rm) 7 29 [(0, .ref x0), (1, .int x1), (2, .int x2), (3, .int x3), (4, .int x4), (5, .int x5)] [.int r7] m6
      refine v_istore (pc := 29) (lv' := [(6, .int r7), (0, .ref x0), (1, .int x1), (2, .int x2), (3, .int x3), (4, .int x4), (5, .int x5)]) C 15 rfl (by decide) rfl ?_
      refine v_iload (pc := 31) C 16 5 rfl rfl ?_
      refine v_iload (pc := 33) C 17 0 rfl rfl ?_
      refine v_iload_n (pc := 35) C 18 2 rfl rfl rfl ?_
      refine v_icmp_lt (pc := 36) C 19 49 rfl (by decide) (fun c9 => ?_) (fun c9 => ?_)
      · replace h := g_ifT c9 h
        refine v_sub [(0, .ref x0), (1, .int x1), (2, .int x2), (3, .int x3), (5, .int x5)] [1, 2, 3, 4, 6] rfl ?_
        exact tb_X1_howManyMean_49 (F := F) C hr hk6 h
      · replace h := g_ifF c9 h
        refine v_iload (pc := 39) C 20 0 rfl rfl ?_
        refine v_iload_n (pc := 41) C 21 3 rfl rfl rfl ?_
        refine v_icmp_gt (pc := 42) C 22 49 rfl (by decide) (fun c10 => ?_) (fun c10 => ?_)
        · replace h := g_ifT c10 h
          refine v_sub [(0, .ref x0), (1, .int x1), (2, .int x2), (3, .int x3), (5, .int x5)] [1, 2, 3, 4, 6] rfl ?_
          exact tb_X1_howManyMean_49 (F := F) C hr hk6 h
        · replace h := g_ifF c10 h
          refine v_iconst (pc := 45) C 23 1 rfl (by decide) ?_
          refine v_goto (pc := 46) C 24 50 rfl (by decide) ?_
          refine v_sub [(0, .ref x0), (1, .int x1), (2, .int x2), (3, .int x3), (5, .int x5)] [1, 2, 3, 4, 6] rfl ?_
          exact tb_X1_howManyMean_50 (F := F) C hr hk6 h
def l_X1_howManyMean_6 (sh : List gS) (F : Nat) : Nat → Nat → Int32 → Int32 → Int32 → Int32 → Int32 → gM → Option (Int32 × gM)
  | 0 => fun _ _ _ _ _ _ _ => none
  | n + 1 => fun x0 x1 x2 x3 x4 x5 m => b_X1_howManyMean_6 sh F (l_X1_howManyMean_6 sh F n) x0 x1 x2 x3 x4 x5 m
theorem tl_X1_howManyMean_6 {X : gX} {w : gW} {rr : Int32} {rm : gM} (C : gC X w K_X1_howManyMean 7 RX1 1) (hr : X.2.2.2.2.2.2.2.2.1.sig.returnType = (some .int)) {F : Nat} : ∀ (n : Nat) (x0 : Nat) (x1 : Int32) (x2 : Int32) (x3 : Int32) (x4 : Int32) (x5 : Int32) (m : gM), l_X1_howManyMean_6 w.2.2.2.2.1 F n x0 x1 x2 x3 x4 x5 m = some (rr, rm) → gV X w 0 0 (gR X w (some (.int rr)) rm) 7 6 [(0, .ref x0), (1, .int x1), (2, .int x2), (3, .int x3), (4, .int x4), (5, .int x5)] [] m := by
  intro n
  induction n with
  | zero => intro x0 x1 x2 x3 x4 x5 m h; cases h
  | succ n ih => intro x0 x1 x2 x3 x4 x5 m h; exact tb_X1_howManyMean_6 (F := F) C hr ih h
def f_X1_howManyMean (sh : List gS) (F : Nat) (x0 : Nat) (x1 : Int32) (x2 : Int32) (x3 : Int32) (m : gM) : Option (Int32 × gM) :=
  l_X1_howManyMean_6 sh F F x0 x1 x2 x3 0 0 m
set_option maxRecDepth 100000 in
set_option maxHeartbeats 4000000 in
theorem tf_X1_howManyMean {X : gX} {w : gW} {rr : Int32} {rm : gM} (C : gC X w K_X1_howManyMean 7 RX1 1) (hr : X.2.2.2.2.2.2.2.2.1.sig.returnType = (some .int)) {F : Nat} {x0 : Nat} {x1 : Int32} {x2 : Int32} {x3 : Int32} {m : gM} (h : f_X1_howManyMean w.2.2.2.2.1 F x0 x1 x2 x3 m = some (rr, rm)) : gV X w 0 0 (gR X w (some (.int rr)) rm) 7 0 [(0, .ref x0), (1, .int x1), (2, .int x2), (3, .int x3)] [] m := by
  unfold f_X1_howManyMean at h
  refine v_iconst (pc := 0) C 0 0 rfl (by decide) ?_
  refine v_istore (pc := 1) (lv' := [(4, .int 0), (0, .ref x0), (1, .int x1), (2, .int x2), (3, .int x3)]) C 1 rfl (by decide) rfl ?_
  refine v_iconst (pc := 3) C 2 0 rfl (by decide) ?_
  refine v_istore (pc := 4) (lv' := [(5, .int 0), (4, .int 0), (0, .ref x0), (1, .int x1), (2, .int x2), (3, .int x3)]) C 3 rfl (by decide) rfl ?_
  refine v_sub [(0, .ref x0), (1, .int x1), (2, .int x2), (3, .int x3), (4, .int 0), (5, .int 0)] [2, 3, 4, 5, 1, 0] rfl ?_
  exact tl_X1_howManyMean_6 (F := F) C hr _ _ _ _ _ _ _ _ h
theorem c_X1_howManyMean {l : Launch} {w : gW} {rr : Int32} {rm : gM} (hJ : gJok w) {F : Nat} {x0 : Nat} {x1 : Int32} {x2 : Int32} {x3 : Int32} {m : gM} (h : f_X1_howManyMean w.2.2.2.2.1 F x0 x1 x2 x3 m = some (rr, rm)) : gMet l 1 yX1_howManyMean cX1_howManyMean 7 (some .int) w [.ref x0, .int x1, .int x2, .int x3] m (some (.int rr)) rm :=
  gMet.of hJ mf_X1_howManyMean dk_X1_howManyMean (Nat.le_of_ble_eq_true rfl) (fun X _ C hr => tf_X1_howManyMean (F := F) C hr h)
def b_X1_usersOf_40 (sh : List gS) (F : Nat) (k6 : Nat → Int64 → Int32 → Int32 → Int32 → gM → Option (Int32 × gM)) (x0 : Nat) (x1 : Int64) (x3 : Int32) (x5 : Int32) (y0 : Int32) (y1 : Int32) (m : gM) : Option (Int32 × gM) :=
  nm (y1 + y0) (fun v1 => nm (x5 + Int32.ofInt 1) (fun v2 => k6 x0 x1 x3 v1 v2 m))
set_option maxRecDepth 100000 in
set_option maxHeartbeats 4000000 in
theorem tb_X1_usersOf_40 {X : gX} {w : gW} {rr : Int32} {rm : gM} (C : gC X w K_X1_usersOf 6 RX1 0) (hr : X.2.2.2.2.2.2.2.2.1.sig.returnType = (some .int)) {F : Nat} {k6 : Nat → Int64 → Int32 → Int32 → Int32 → gM → Option (Int32 × gM)} (hk6 : ∀ (z0 : Nat) (z1 : Int64) (z3 : Int32) (z4 : Int32) (z5 : Int32) (m : gM), k6 z0 z1 z3 z4 z5 m = some (rr, rm) → gV X w 0 0 (gR X w (some (.int rr)) rm) 6 6 [(0, .ref z0), (1, .long z1), (3, .int z3), (4, .int z4), (5, .int z5)] [] m) {x0 : Nat} {x1 : Int64} {x3 : Int32} {x5 : Int32} {y0 : Int32} {y1 : Int32} {m : gM} (h : b_X1_usersOf_40 w.2.2.2.2.1 F k6 x0 x1 x3 x5 y0 y1 m = some (rr, rm)) : gV X w 0 0 (gR X w (some (.int rr)) rm) 6 40 [(0, .ref x0), (1, .long x1), (3, .int x3), (5, .int x5)] [.int y0, .int y1] m := by
  unfold b_X1_usersOf_40 at h
  refine v_iadd (pc := 40) C 23 rfl ?_
  refine v_topI (fun v1 ev1 => ?_)
  replace h := g_nm h ev1
  refine v_istore (pc := 41) (lv' := [(4, .int v1), (0, .ref x0), (1, .long x1), (3, .int x3), (5, .int x5)]) C 24 rfl (by decide) rfl ?_
  refine v_iincN (pc := 43) C 25 4 (fun v2 => [(5, .int v2), (4, .int v1), (0, .ref x0), (1, .long x1), (3, .int x3)]) rfl rfl (by decide) (fun _ => rfl) (fun v2 ev2 => ?_)
  replace h := g_nm h ev2
  refine v_goto (pc := 46) C 26 6 rfl (by decide) ?_
  refine v_sub [(0, .ref x0), (1, .long x1), (3, .int x3), (4, .int v1), (5, .int v2)] [2, 3, 4, 1, 0] rfl ?_
  exact hk6 _ _ _ _ _ _ h
def b_X1_usersOf_6 (sh : List gS) (F : Nat) (k6 : Nat → Int64 → Int32 → Int32 → Int32 → gM → Option (Int32 × gM)) (x0 : Nat) (x1 : Int64) (x3 : Int32) (x4 : Int32) (x5 : Int32) (m : gM) : Option (Int32 × gM) :=
  if x3 ≤ x5 then (some (x4, m)) else (if (100 : Int32) ≤ x5 then (some (x4, m)) else (g_if (oB sh x0 1) ((m.2.2 x0 1).bind (fun t4 => g_if (aB sh t4 .long x5) (if ((m.2.1 t4 (x5).toNatClampNeg) &&& x1) = (0 : Int64) then (b_X1_usersOf_40 sh F k6 x0 x1 x3 x5 0 x4 m) else (b_X1_usersOf_40 sh F k6 x0 x1 x3 x5 1 x4 m))))))
set_option maxRecDepth 100000 in
set_option maxHeartbeats 4000000 in
theorem tb_X1_usersOf_6 {X : gX} {w : gW} {rr : Int32} {rm : gM} (C : gC X w K_X1_usersOf 6 RX1 0) (hr : X.2.2.2.2.2.2.2.2.1.sig.returnType = (some .int)) {F : Nat} {k6 : Nat → Int64 → Int32 → Int32 → Int32 → gM → Option (Int32 × gM)} (hk6 : ∀ (z0 : Nat) (z1 : Int64) (z3 : Int32) (z4 : Int32) (z5 : Int32) (m : gM), k6 z0 z1 z3 z4 z5 m = some (rr, rm) → gV X w 0 0 (gR X w (some (.int rr)) rm) 6 6 [(0, .ref z0), (1, .long z1), (3, .int z3), (4, .int z4), (5, .int z5)] [] m) {x0 : Nat} {x1 : Int64} {x3 : Int32} {x4 : Int32} {x5 : Int32} {m : gM} (h : b_X1_usersOf_6 w.2.2.2.2.1 F k6 x0 x1 x3 x4 x5 m = some (rr, rm)) : gV X w 0 0 (gR X w (some (.int rr)) rm) 6 6 [(0, .ref x0), (1, .long x1), (3, .int x3), (4, .int x4), (5, .int x5)] [] m := by
  unfold b_X1_usersOf_6 at h
  refine v_iload (pc := 6) C 4 4 rfl rfl ?_
  refine v_iload_n (pc := 8) C 5 2 rfl rfl rfl ?_
  refine v_icmp_ge (pc := 9) C 6 49 rfl (by decide) (fun c1 => ?_) (fun c1 => ?_)
  · replace h := g_ifT c1 h
    refine v_iload (pc := 49) C 27 3 rfl rfl ?_
    obtain ⟨rfl, rfl⟩ := g_so h
    exact v_iret (pc := 51) C 28 rfl hr
  · replace h := g_ifF c1 h
    refine v_iload (pc := 12) C 7 4 rfl rfl ?_
    refine v_bipush (pc := 14) C 8 100 rfl (by decide) ?_
    refine v_icmp_ge (pc := 16) C 9 49 rfl (by decide) (fun c2 => ?_) (fun c2 => ?_)
    · replace h := g_ifT c2 h
      refine v_iload (pc := 49) C 27 3 rfl rfl ?_
      obtain ⟨rfl, rfl⟩ := g_so h
      exact v_iret (pc := 51) C 28 rfl hr
    · replace h := g_ifF c2 h
      refine v_iload (pc := 19) C 10 3 rfl rfl ?_
      refine v_aload_n (pc := 21) C 11 0 rfl rfl rfl ?_
      obtain ⟨o3, h⟩ := g_okk h
      obtain ⟨t4, qt4, h⟩ := g_bd h
      refine v_getR (pc := 22) C 12 rfl lf_ScopeGraph_Meaning_15 (g_oB o3) rfl qt4 ?_
      refine v_iload (pc := 25) C 13 4 rfl rfl ?_
      obtain ⟨b5, h⟩ := g_okk h
      refine v_lald' (pc := 27) C 14 rfl b5 ?_
      refine v_lload_n (pc := 28) C 15 1 rfl rfl rfl ?_
      refine v_land (pc := 29) C 16 rfl ?_
      refine v_lconst (pc := 30) C 17 0 rfl (by decide) ?_
      refine v_lcmp (pc := 31) C 18 rfl ?_
      refine v_lif_eq (pc := 32) C 19 39 rfl (by decide) (fun c6 => ?_) (fun c6 => ?_)
      · replace h := g_ifT c6 h
        refine v_iconst (pc := 39) C 22 0 rfl (by decide) ?_
        refine v_sub [(0, .ref x0), (1, .long x1), (3, .int x3), (5, .int x5)] [0, 1, 2, 4] rfl ?_
        exact tb_X1_usersOf_40 (F := F) C hr hk6 h
      · replace h := g_ifF c6 h
        refine v_iconst (pc := 35) C 20 1 rfl (by decide) ?_
        refine v_goto (pc := 36) C 21 40 rfl (by decide) ?_
        refine v_sub [(0, .ref x0), (1, .long x1), (3, .int x3), (5, .int x5)] [0, 1, 2, 4] rfl ?_
        exact tb_X1_usersOf_40 (F := F) C hr hk6 h
def l_X1_usersOf_6 (sh : List gS) (F : Nat) : Nat → Nat → Int64 → Int32 → Int32 → Int32 → gM → Option (Int32 × gM)
  | 0 => fun _ _ _ _ _ _ => none
  | n + 1 => fun x0 x1 x3 x4 x5 m => b_X1_usersOf_6 sh F (l_X1_usersOf_6 sh F n) x0 x1 x3 x4 x5 m
theorem tl_X1_usersOf_6 {X : gX} {w : gW} {rr : Int32} {rm : gM} (C : gC X w K_X1_usersOf 6 RX1 0) (hr : X.2.2.2.2.2.2.2.2.1.sig.returnType = (some .int)) {F : Nat} : ∀ (n : Nat) (x0 : Nat) (x1 : Int64) (x3 : Int32) (x4 : Int32) (x5 : Int32) (m : gM), l_X1_usersOf_6 w.2.2.2.2.1 F n x0 x1 x3 x4 x5 m = some (rr, rm) → gV X w 0 0 (gR X w (some (.int rr)) rm) 6 6 [(0, .ref x0), (1, .long x1), (3, .int x3), (4, .int x4), (5, .int x5)] [] m := by
  intro n
  induction n with
  | zero => intro x0 x1 x3 x4 x5 m h; cases h
  | succ n ih => intro x0 x1 x3 x4 x5 m h; exact tb_X1_usersOf_6 (F := F) C hr ih h
def f_X1_usersOf (sh : List gS) (F : Nat) (x0 : Nat) (x1 : Int64) (x3 : Int32) (m : gM) : Option (Int32 × gM) :=
  l_X1_usersOf_6 sh F F x0 x1 x3 0 0 m
set_option maxRecDepth 100000 in
set_option maxHeartbeats 4000000 in
theorem tf_X1_usersOf {X : gX} {w : gW} {rr : Int32} {rm : gM} (C : gC X w K_X1_usersOf 6 RX1 0) (hr : X.2.2.2.2.2.2.2.2.1.sig.returnType = (some .int)) {F : Nat} {x0 : Nat} {x1 : Int64} {x3 : Int32} {m : gM} (h : f_X1_usersOf w.2.2.2.2.1 F x0 x1 x3 m = some (rr, rm)) : gV X w 0 0 (gR X w (some (.int rr)) rm) 6 0 [(0, .ref x0), (1, .long x1), (3, .int x3)] [] m := by
  unfold f_X1_usersOf at h
  refine v_iconst (pc := 0) C 0 0 rfl (by decide) ?_
  refine v_istore (pc := 1) (lv' := [(4, .int 0), (0, .ref x0), (1, .long x1), (3, .int x3)]) C 1 rfl (by decide) rfl ?_
  refine v_iconst (pc := 3) C 2 0 rfl (by decide) ?_
  refine v_istore (pc := 4) (lv' := [(5, .int 0), (4, .int 0), (0, .ref x0), (1, .long x1), (3, .int x3)]) C 3 rfl (by decide) rfl ?_
  refine v_sub [(0, .ref x0), (1, .long x1), (3, .int x3), (4, .int 0), (5, .int 0)] [2, 3, 4, 1, 0] rfl ?_
  exact tl_X1_usersOf_6 (F := F) C hr _ _ _ _ _ _ _ h
theorem c_X1_usersOf {l : Launch} {w : gW} {rr : Int32} {rm : gM} (hJ : gJok w) {F : Nat} {x0 : Nat} {x1 : Int64} {x3 : Int32} {m : gM} (h : f_X1_usersOf w.2.2.2.2.1 F x0 x1 x3 m = some (rr, rm)) : gMet l 0 yX1_usersOf cX1_usersOf 6 (some .int) w [.ref x0, .long x1, .int x3] m (some (.int rr)) rm :=
  gMet.of hJ mf_X1_usersOf dk_X1_usersOf (Nat.le_of_ble_eq_true rfl) (fun X _ C hr => tf_X1_usersOf (F := F) C hr h)
def b_X1_friendsOf_77 (sh : List gS) (F : Nat) (k10 : Nat → Int32 → Int64 → Int64 → Int32 → gM → Option (Int64 × gM)) (x0 : Nat) (x2 : Int32) (x3 : Int64) (x5 : Int64) (x7 : Int32) (m : gM) : Option (Int64 × gM) :=
  nm (x7 + Int32.ofInt 1) (fun v1 => k10 x0 x2 x3 x5 v1 m)
set_option maxRecDepth 100000 in
set_option maxHeartbeats 4000000 in
theorem tb_X1_friendsOf_77 {X : gX} {w : gW} {rr : Int64} {rm : gM} (C : gC X w K_X1_friendsOf 9 RX1 0) (hr : X.2.2.2.2.2.2.2.2.1.sig.returnType = (some .long)) {F : Nat} {k10 : Nat → Int32 → Int64 → Int64 → Int32 → gM → Option (Int64 × gM)} (hk10 : ∀ (z0 : Nat) (z2 : Int32) (z3 : Int64) (z5 : Int64) (z7 : Int32) (m : gM), k10 z0 z2 z3 z5 z7 m = some (rr, rm) → gV X w 0 0 (gR X w (some (.long rr)) rm) 9 10 [(0, .ref z0), (2, .int z2), (3, .long z3), (5, .long z5), (7, .int z7)] [] m) {x0 : Nat} {x2 : Int32} {x3 : Int64} {x5 : Int64} {x7 : Int32} {m : gM} (h : b_X1_friendsOf_77 w.2.2.2.2.1 F k10 x0 x2 x3 x5 x7 m = some (rr, rm)) : gV X w 0 0 (gR X w (some (.long rr)) rm) 9 77 [(0, .ref x0), (2, .int x2), (3, .long x3), (5, .long x5), (7, .int x7)] [] m := by
  unfold b_X1_friendsOf_77 at h
  refine v_iincN (pc := 77) C 45 4 (fun v1 => [(7, .int v1), (0, .ref x0), (2, .int x2), (3, .long x3), (5, .long x5)]) rfl rfl (by decide) (fun _ => rfl) (fun v1 ev1 => ?_)
  replace h := g_nm h ev1
  refine v_goto (pc := 80) C 46 10 rfl (by decide) ?_
  refine v_sub [(0, .ref x0), (2, .int x2), (3, .long x3), (5, .long x5), (7, .int v1)] [1, 2, 3, 4, 0] rfl ?_
  exact hk10 _ _ _ _ _ _ h
def b_X1_friendsOf_69 (sh : List gS) (F : Nat) (k10 : Nat → Int32 → Int64 → Int64 → Int32 → gM → Option (Int64 × gM)) (k30 : Nat → Int32 → Int64 → Int64 → Int32 → Int32 → gM → Option (Int64 × gM)) (x0 : Nat) (x2 : Int32) (x5 : Int64) (x7 : Int32) (x8 : Int32) (y0 : Int64) (y1 : Int64) (m : gM) : Option (Int64 × gM) :=
  nm (y1 ||| y0) (fun v1 => nm (x8 + Int32.ofInt 1) (fun v2 => k30 x0 x2 v1 x5 x7 v2 m))
set_option maxRecDepth 100000 in
set_option maxHeartbeats 4000000 in
theorem tb_X1_friendsOf_69 {X : gX} {w : gW} {rr : Int64} {rm : gM} (C : gC X w K_X1_friendsOf 9 RX1 0) (hr : X.2.2.2.2.2.2.2.2.1.sig.returnType = (some .long)) {F : Nat} {k10 : Nat → Int32 → Int64 → Int64 → Int32 → gM → Option (Int64 × gM)} {k30 : Nat → Int32 → Int64 → Int64 → Int32 → Int32 → gM → Option (Int64 × gM)} (hk10 : ∀ (z0 : Nat) (z2 : Int32) (z3 : Int64) (z5 : Int64) (z7 : Int32) (m : gM), k10 z0 z2 z3 z5 z7 m = some (rr, rm) → gV X w 0 0 (gR X w (some (.long rr)) rm) 9 10 [(0, .ref z0), (2, .int z2), (3, .long z3), (5, .long z5), (7, .int z7)] [] m) (hk30 : ∀ (z0 : Nat) (z2 : Int32) (z3 : Int64) (z5 : Int64) (z7 : Int32) (z8 : Int32) (m : gM), k30 z0 z2 z3 z5 z7 z8 m = some (rr, rm) → gV X w 0 0 (gR X w (some (.long rr)) rm) 9 30 [(0, .ref z0), (2, .int z2), (3, .long z3), (5, .long z5), (7, .int z7), (8, .int z8)] [] m) {x0 : Nat} {x2 : Int32} {x5 : Int64} {x7 : Int32} {x8 : Int32} {y0 : Int64} {y1 : Int64} {m : gM} (h : b_X1_friendsOf_69 w.2.2.2.2.1 F k10 k30 x0 x2 x5 x7 x8 y0 y1 m = some (rr, rm)) : gV X w 0 0 (gR X w (some (.long rr)) rm) 9 69 [(0, .ref x0), (2, .int x2), (5, .long x5), (7, .int x7), (8, .int x8)] [.long y0, .long y1] m := by
  unfold b_X1_friendsOf_69 at h
  refine v_lor (pc := 69) C 41 rfl ?_
  refine v_topJ (fun v1 ev1 => ?_)
  replace h := g_nm h ev1
  refine v_lstore_n (pc := 70) (lv' := [(3, .long v1), (0, .ref x0), (2, .int x2), (5, .long x5), (7, .int x7), (8, .int x8)]) C 42 rfl rfl (by decide) rfl ?_
  refine v_iincN (pc := 71) C 43 5 (fun v2 => [(8, .int v2), (3, .long v1), (0, .ref x0), (2, .int x2), (5, .long x5), (7, .int x7)]) rfl rfl (by decide) (fun _ => rfl) (fun v2 ev2 => ?_)
  replace h := g_nm h ev2
  refine v_goto (pc := 74) C 44 30 rfl (by decide) ?_
  refine v_sub [(0, .ref x0), (2, .int x2), (3, .long v1), (5, .long x5), (7, .int x7), (8, .int v2)] [2, 3, 1, 4, 5, 0] rfl ?_
  exact hk30 _ _ _ _ _ _ _ h
def b_X1_friendsOf_30 (sh : List gS) (F : Nat) (k10 : Nat → Int32 → Int64 → Int64 → Int32 → gM → Option (Int64 × gM)) (k30 : Nat → Int32 → Int64 → Int64 → Int32 → Int32 → gM → Option (Int64 × gM)) (x0 : Nat) (x2 : Int32) (x3 : Int64) (x5 : Int64) (x7 : Int32) (x8 : Int32) (m : gM) : Option (Int64 × gM) :=
  if x2 ≤ x8 then (b_X1_friendsOf_77 sh F k10 x0 x2 x3 x5 x7 m) else (if (100 : Int32) ≤ x8 then (b_X1_friendsOf_77 sh F k10 x0 x2 x3 x5 x7 m) else (g_if (oB sh x0 1) ((m.2.2 x0 1).bind (fun t4 => g_if (aB sh t4 .long x8) (if ((m.2.1 t4 (x8).toNatClampNeg) &&& x3) = (0 : Int64) then (b_X1_friendsOf_69 sh F k10 k30 x0 x2 x5 x7 x8 0 x3 m) else ((m.2.2 x0 1).bind (fun t7 => g_if (aB sh t7 .long x8) (b_X1_friendsOf_69 sh F k10 k30 x0 x2 x5 x7 x8 (m.2.1 t7 (x8).toNatClampNeg) x3 m))))))))
set_option maxRecDepth 100000 in
set_option maxHeartbeats 4000000 in
theorem tb_X1_friendsOf_30 {X : gX} {w : gW} {rr : Int64} {rm : gM} (C : gC X w K_X1_friendsOf 9 RX1 0) (hr : X.2.2.2.2.2.2.2.2.1.sig.returnType = (some .long)) {F : Nat} {k10 : Nat → Int32 → Int64 → Int64 → Int32 → gM → Option (Int64 × gM)} {k30 : Nat → Int32 → Int64 → Int64 → Int32 → Int32 → gM → Option (Int64 × gM)} (hk10 : ∀ (z0 : Nat) (z2 : Int32) (z3 : Int64) (z5 : Int64) (z7 : Int32) (m : gM), k10 z0 z2 z3 z5 z7 m = some (rr, rm) → gV X w 0 0 (gR X w (some (.long rr)) rm) 9 10 [(0, .ref z0), (2, .int z2), (3, .long z3), (5, .long z5), (7, .int z7)] [] m) (hk30 : ∀ (z0 : Nat) (z2 : Int32) (z3 : Int64) (z5 : Int64) (z7 : Int32) (z8 : Int32) (m : gM), k30 z0 z2 z3 z5 z7 z8 m = some (rr, rm) → gV X w 0 0 (gR X w (some (.long rr)) rm) 9 30 [(0, .ref z0), (2, .int z2), (3, .long z3), (5, .long z5), (7, .int z7), (8, .int z8)] [] m) {x0 : Nat} {x2 : Int32} {x3 : Int64} {x5 : Int64} {x7 : Int32} {x8 : Int32} {m : gM} (h : b_X1_friendsOf_30 w.2.2.2.2.1 F k10 k30 x0 x2 x3 x5 x7 x8 m = some (rr, rm)) : gV X w 0 0 (gR X w (some (.long rr)) rm) 9 30 [(0, .ref x0), (2, .int x2), (3, .long x3), (5, .long x5), (7, .int x7), (8, .int x8)] [] m := by
  unfold b_X1_friendsOf_30 at h
  refine v_iload (pc := 30) C 19 5 rfl rfl ?_
  refine v_iload_n (pc := 32) C 20 1 rfl rfl rfl ?_
  refine v_icmp_ge (pc := 33) C 21 77 rfl (by decide) (fun c1 => ?_) (fun c1 => ?_)
  · replace h := g_ifT c1 h
    refine v_sub [(0, .ref x0), (2, .int x2), (3, .long x3), (5, .long x5), (7, .int x7)] [0, 1, 2, 3, 4] rfl ?_
    exact tb_X1_friendsOf_77 (F := F) C hr hk10 h
  · replace h := g_ifF c1 h
    refine v_iload (pc := 36) C 22 5 rfl rfl ?_
    refine v_bipush (pc := 38) C 23 100 rfl (by decide) ?_
    refine v_icmp_ge (pc := 40) C 24 77 rfl (by decide) (fun c2 => ?_) (fun c2 => ?_)
    · replace h := g_ifT c2 h
      refine v_sub [(0, .ref x0), (2, .int x2), (3, .long x3), (5, .long x5), (7, .int x7)] [0, 1, 2, 3, 4] rfl ?_
      exact tb_X1_friendsOf_77 (F := F) C hr hk10 h
    · replace h := g_ifF c2 h
      refine v_lload_n (pc := 43) C 25 2 rfl rfl rfl ?_
      refine v_aload_n (pc := 44) C 26 0 rfl rfl rfl ?_
      obtain ⟨o3, h⟩ := g_okk h
      obtain ⟨t4, qt4, h⟩ := g_bd h
      refine v_getR (pc := 45) C 27 rfl lf_ScopeGraph_Meaning_15 (g_oB o3) rfl qt4 ?_
      refine v_iload (pc := 48) C 28 5 rfl rfl ?_
      obtain ⟨b5, h⟩ := g_okk h
      refine v_lald' (pc := 50) C 29 rfl b5 ?_
      refine v_lload_n (pc := 51) C 30 2 rfl rfl rfl ?_
      refine v_land (pc := 52) C 31 rfl ?_
      refine v_lconst (pc := 53) C 32 0 rfl (by decide) ?_
      refine v_lcmp (pc := 54) C 33 rfl ?_
      refine v_lif_eq (pc := 55) C 34 68 rfl (by decide) (fun c6 => ?_) (fun c6 => ?_)
      · replace h := g_ifT c6 h
        refine v_lconst (pc := 68) C 40 0 rfl (by decide) ?_
        refine v_sub [(0, .ref x0), (2, .int x2), (5, .long x5), (7, .int x7), (8, .int x8)] [0, 1, 3, 4, 5] rfl ?_
        exact tb_X1_friendsOf_69 (F := F) C hr hk10 hk30 h
      · replace h := g_ifF c6 h
        refine v_aload_n (pc := 58) C 35 0 rfl rfl rfl ?_
        obtain ⟨t7, qt7, h⟩ := g_bd h
        refine v_getR (pc := 59) C 36 rfl lf_ScopeGraph_Meaning_15 (g_oB o3) rfl qt7 ?_
        refine v_iload (pc := 62) C 37 5 rfl rfl ?_
        obtain ⟨b8, h⟩ := g_okk h
        refine v_lald' (pc := 64) C 38 rfl b8 ?_
        refine v_goto (pc := 65) C 39 69 rfl (by decide) ?_
        refine v_sub [(0, .ref x0), (2, .int x2), (5, .long x5), (7, .int x7), (8, .int x8)] [0, 1, 3, 4, 5] rfl ?_
        exact tb_X1_friendsOf_69 (F := F) C hr hk10 hk30 h
def l_X1_friendsOf_30 (sh : List gS) (F : Nat) (k10 : Nat → Int32 → Int64 → Int64 → Int32 → gM → Option (Int64 × gM)) : Nat → Nat → Int32 → Int64 → Int64 → Int32 → Int32 → gM → Option (Int64 × gM)
  | 0 => fun _ _ _ _ _ _ _ => none
  | n + 1 => fun x0 x2 x3 x5 x7 x8 m => b_X1_friendsOf_30 sh F k10 (l_X1_friendsOf_30 sh F k10 n) x0 x2 x3 x5 x7 x8 m
theorem tl_X1_friendsOf_30 {X : gX} {w : gW} {rr : Int64} {rm : gM} (C : gC X w K_X1_friendsOf 9 RX1 0) (hr : X.2.2.2.2.2.2.2.2.1.sig.returnType = (some .long)) {F : Nat} {k10 : Nat → Int32 → Int64 → Int64 → Int32 → gM → Option (Int64 × gM)} (hk10 : ∀ (z0 : Nat) (z2 : Int32) (z3 : Int64) (z5 : Int64) (z7 : Int32) (m : gM), k10 z0 z2 z3 z5 z7 m = some (rr, rm) → gV X w 0 0 (gR X w (some (.long rr)) rm) 9 10 [(0, .ref z0), (2, .int z2), (3, .long z3), (5, .long z5), (7, .int z7)] [] m) : ∀ (n : Nat) (x0 : Nat) (x2 : Int32) (x3 : Int64) (x5 : Int64) (x7 : Int32) (x8 : Int32) (m : gM), l_X1_friendsOf_30 w.2.2.2.2.1 F k10 n x0 x2 x3 x5 x7 x8 m = some (rr, rm) → gV X w 0 0 (gR X w (some (.long rr)) rm) 9 30 [(0, .ref x0), (2, .int x2), (3, .long x3), (5, .long x5), (7, .int x7), (8, .int x8)] [] m := by
  intro n
  induction n with
  | zero => intro x0 x2 x3 x5 x7 x8 m h; cases h
  | succ n ih => intro x0 x2 x3 x5 x7 x8 m h; exact tb_X1_friendsOf_30 (F := F) C hr hk10 ih h
def b_X1_friendsOf_10 (sh : List gS) (F : Nat) (k10 : Nat → Int32 → Int64 → Int64 → Int32 → gM → Option (Int64 × gM)) (x0 : Nat) (x2 : Int32) (x3 : Int64) (x5 : Int64) (x7 : Int32) (m : gM) : Option (Int64 × gM) :=
  if (60 : Int32) < x7 then (some (x3, m)) else (if x3 = x5 then (some (x3, m)) else (l_X1_friendsOf_30 sh F k10 F x0 x2 x3 x3 x7 0 m))
set_option maxRecDepth 100000 in
set_option maxHeartbeats 4000000 in
theorem tb_X1_friendsOf_10 {X : gX} {w : gW} {rr : Int64} {rm : gM} (C : gC X w K_X1_friendsOf 9 RX1 0) (hr : X.2.2.2.2.2.2.2.2.1.sig.returnType = (some .long)) {F : Nat} {k10 : Nat → Int32 → Int64 → Int64 → Int32 → gM → Option (Int64 × gM)} (hk10 : ∀ (z0 : Nat) (z2 : Int32) (z3 : Int64) (z5 : Int64) (z7 : Int32) (m : gM), k10 z0 z2 z3 z5 z7 m = some (rr, rm) → gV X w 0 0 (gR X w (some (.long rr)) rm) 9 10 [(0, .ref z0), (2, .int z2), (3, .long z3), (5, .long z5), (7, .int z7)] [] m) {x0 : Nat} {x2 : Int32} {x3 : Int64} {x5 : Int64} {x7 : Int32} {m : gM} (h : b_X1_friendsOf_10 w.2.2.2.2.1 F k10 x0 x2 x3 x5 x7 m = some (rr, rm)) : gV X w 0 0 (gR X w (some (.long rr)) rm) 9 10 [(0, .ref x0), (2, .int x2), (3, .long x3), (5, .long x5), (7, .int x7)] [] m := by
  unfold b_X1_friendsOf_10 at h
  refine v_iload (pc := 10) C 8 4 rfl rfl ?_
  refine v_bipush (pc := 12) C 9 60 rfl (by decide) ?_
  refine v_icmp_gt (pc := 14) C 10 83 rfl (by decide) (fun c1 => ?_) (fun c1 => ?_)
  · replace h := g_ifT c1 h
    refine v_lload_n (pc := 83) C 47 2 rfl rfl rfl ?_
    obtain ⟨rfl, rfl⟩ := g_so h
    exact v_lret (pc := 84) C 48 rfl hr
  · replace h := g_ifF c1 h
    refine v_lload_n (pc := 17) C 11 2 rfl rfl rfl ?_
    refine v_lload (pc := 18) C 12 3 rfl rfl ?_
    refine v_lcmp (pc := 20) C 13 rfl ?_
    refine v_lif_eq (pc := 21) C 14 83 rfl (by decide) (fun c2 => ?_) (fun c2 => ?_)
    · replace h := g_ifT c2 h
      refine v_lload_n (pc := 83) C 47 2 rfl rfl rfl ?_
      obtain ⟨rfl, rfl⟩ := g_so h
      exact v_lret (pc := 84) C 48 rfl hr
    · replace h := g_ifF c2 h
      refine v_lload_n (pc := 24) C 15 2 rfl rfl rfl ?_
      refine v_lstore (pc := 25) (lv' := [(5, .long x3), (0, .ref x0), (2, .int x2), (3, .long x3), (7, .int x7)]) C 16 rfl (by decide) rfl ?_
      refine v_iconst (pc := 27) C 17 0 rfl (by decide) ?_
      refine v_istore (pc := 28) (lv' := [(8, .int 0), (5, .long x3), (0, .ref x0), (2, .int x2), (3, .long x3), (7, .int x7)]) C 18 rfl (by decide) rfl ?_
      refine v_sub [(0, .ref x0), (2, .int x2), (3, .long x3), (5, .long x3), (7, .int x7), (8, .int 0)] [2, 3, 4, 1, 5, 0] rfl ?_
      exact tl_X1_friendsOf_30 (F := F) C hr hk10 _ _ _ _ _ _ _ _ h
def l_X1_friendsOf_10 (sh : List gS) (F : Nat) : Nat → Nat → Int32 → Int64 → Int64 → Int32 → gM → Option (Int64 × gM)
  | 0 => fun _ _ _ _ _ _ => none
  | n + 1 => fun x0 x2 x3 x5 x7 m => b_X1_friendsOf_10 sh F (l_X1_friendsOf_10 sh F n) x0 x2 x3 x5 x7 m
theorem tl_X1_friendsOf_10 {X : gX} {w : gW} {rr : Int64} {rm : gM} (C : gC X w K_X1_friendsOf 9 RX1 0) (hr : X.2.2.2.2.2.2.2.2.1.sig.returnType = (some .long)) {F : Nat} : ∀ (n : Nat) (x0 : Nat) (x2 : Int32) (x3 : Int64) (x5 : Int64) (x7 : Int32) (m : gM), l_X1_friendsOf_10 w.2.2.2.2.1 F n x0 x2 x3 x5 x7 m = some (rr, rm) → gV X w 0 0 (gR X w (some (.long rr)) rm) 9 10 [(0, .ref x0), (2, .int x2), (3, .long x3), (5, .long x5), (7, .int x7)] [] m := by
  intro n
  induction n with
  | zero => intro x0 x2 x3 x5 x7 m h; cases h
  | succ n ih => intro x0 x2 x3 x5 x7 m h; exact tb_X1_friendsOf_10 (F := F) C hr ih h
def f_X1_friendsOf (sh : List gS) (F : Nat) (x0 : Nat) (x1 : Int32) (x2 : Int32) (m : gM) : Option (Int64 × gM) :=
  nm ((1 : Int64) <<< (x1.toInt64 &&& 63)) (fun v1 => l_X1_friendsOf_10 sh F F x0 x2 v1 0 0 m)
set_option maxRecDepth 100000 in
set_option maxHeartbeats 4000000 in
theorem tf_X1_friendsOf {X : gX} {w : gW} {rr : Int64} {rm : gM} (C : gC X w K_X1_friendsOf 9 RX1 0) (hr : X.2.2.2.2.2.2.2.2.1.sig.returnType = (some .long)) {F : Nat} {x0 : Nat} {x1 : Int32} {x2 : Int32} {m : gM} (h : f_X1_friendsOf w.2.2.2.2.1 F x0 x1 x2 m = some (rr, rm)) : gV X w 0 0 (gR X w (some (.long rr)) rm) 9 0 [(0, .ref x0), (1, .int x1), (2, .int x2)] [] m := by
  unfold f_X1_friendsOf at h
  refine v_lconst (pc := 0) C 0 1 rfl (by decide) ?_
  refine v_iload_n (pc := 1) C 1 1 rfl rfl rfl ?_
  refine v_lshl (pc := 2) C 2 rfl ?_
  refine v_topJ (fun v1 ev1 => ?_)
  replace h := g_nm h ev1
  refine v_lstore_n (pc := 3) (lv' := [(3, .long v1), (0, .ref x0), (1, .int x1), (2, .int x2)]) C 3 rfl rfl (by decide) rfl ?_
  refine v_lconst (pc := 4) C 4 0 rfl (by decide) ?_
  refine v_lstore (pc := 5) (lv' := [(5, .long 0), (3, .long v1), (0, .ref x0), (1, .int x1), (2, .int x2)]) C 5 rfl (by decide) rfl ?_
  refine v_iconst (pc := 7) C 6 0 rfl (by decide) ?_
  refine v_istore (pc := 8) (lv' := [(7, .int 0), (5, .long 0), (3, .long v1), (0, .ref x0), (1, .int x1), (2, .int x2)]) C 7 rfl (by decide) rfl ?_
  refine v_sub [(0, .ref x0), (2, .int x2), (3, .long v1), (5, .long 0), (7, .int 0)] [3, 5, 2, 1, 0] rfl ?_
  exact tl_X1_friendsOf_10 (F := F) C hr _ _ _ _ _ _ _ h
theorem c_X1_friendsOf {l : Launch} {w : gW} {rr : Int64} {rm : gM} (hJ : gJok w) {F : Nat} {x0 : Nat} {x1 : Int32} {x2 : Int32} {m : gM} (h : f_X1_friendsOf w.2.2.2.2.1 F x0 x1 x2 m = some (rr, rm)) : gMet l 0 yX1_friendsOf cX1_friendsOf 9 (some .long) w [.ref x0, .int x1, .int x2] m (some (.long rr)) rm :=
  gMet.of hJ mf_X1_friendsOf dk_X1_friendsOf (Nat.le_of_ble_eq_true rfl) (fun X _ C hr => tf_X1_friendsOf (F := F) C hr h)
def f_X2_makeScope (sh : List gS) (F : Nat) (x0 : Nat) (x1 : Int32) (x2 : Int32) (m : gM) : Option (Int32 × gM) :=
  g_if (oB sh x0 2) (if (m.1 x0 11) < 0 then (some ((-1), m)) else (if (m.1 x0 11) < (64 : Int32) then ((m.2.2 x0 3).bind (fun t4 => g_if (aB sh t4 .int (m.1 x0 11)) (nm (gsI m t4 (m.1 x0 11).toNatClampNeg x1) (fun m6 => (m6.2.2 x0 2).bind (fun t7 => g_if (aB sh t7 .int (m6.1 x0 11)) (nm (gsI m6 t7 (m6.1 x0 11).toNatClampNeg x2) (fun m9 => (m9.2.2 x0 4).bind (fun t10 => g_if (aB sh t10 .long (m9.1 x0 11)) (nm (gsL m9 t10 (m9.1 x0 11).toNatClampNeg 0) (fun m12 => (m12.2.2 x0 5).bind (fun t13 => g_if (aB sh t13 .int (m12.1 x0 11)) (nm (gsI m12 t13 (m12.1 x0 11).toNatClampNeg 0) (fun m15 => nm (gsI m15 x0 11 ((m15.1 x0 11) + (1 : Int32))) (fun m16 => some ((m16.1 x0 11) - (1 : Int32), m16))))))))))))))) else (some ((-1), m))))
set_option maxRecDepth 100000 in
set_option maxHeartbeats 4000000 in
theorem tf_X2_makeScope {X : gX} {w : gW} {rr : Int32} {rm : gM} (C : gC X w K_X2_makeScope 3 RX2 0) (hr : X.2.2.2.2.2.2.2.2.1.sig.returnType = (some .int)) {F : Nat} {x0 : Nat} {x1 : Int32} {x2 : Int32} {m : gM} (h : f_X2_makeScope w.2.2.2.2.1 F x0 x1 x2 m = some (rr, rm)) : gV X w 0 0 (gR X w (some (.int rr)) rm) 3 0 [(0, .ref x0), (1, .int x1), (2, .int x2)] [] m := by
  unfold f_X2_makeScope at h
  refine v_aload_n (pc := 0) C 0 0 rfl rfl rfl ?_
  obtain ⟨o1, h⟩ := g_okk h
  refine v_getI (pc := 1) C 1 rfl lf_ScopeGraph_Program_55.get (g_oB o1) rfl ?_
  refine v_if_lt (pc := 4) C 2 16 rfl (by decide) (fun c2 => ?_) (fun c2 => ?_)
  · replace h := g_ifT c2 h
    refine v_iconst (pc := 16) C 7 (-1) rfl (by decide) ?_
    obtain ⟨rfl, rfl⟩ := g_so h
    exact v_iret (pc := 17) C 8 rfl hr
  · replace h := g_ifF c2 h
    refine v_aload_n (pc := 7) C 3 0 rfl rfl rfl ?_
    refine v_getI (pc := 8) C 4 rfl lf_ScopeGraph_Program_55.get (g_oB o1) rfl ?_
    refine v_bipush (pc := 11) C 5 64 rfl (by decide) ?_
    refine v_icmp_lt (pc := 13) C 6 18 rfl (by decide) (fun c3 => ?_) (fun c3 => ?_)
    · replace h := g_ifT c3 h
      refine v_aload_n (pc := 18) C 9 0 rfl rfl rfl ?_
      obtain ⟨t4, qt4, h⟩ := g_bd h
      refine v_getR (pc := 19) C 10 rfl lf_ScopeGraph_Program_27 (g_oB o1) rfl qt4 ?_
      refine v_aload_n (pc := 22) C 11 0 rfl rfl rfl ?_
      refine v_getI (pc := 23) C 12 rfl lf_ScopeGraph_Program_55.get (g_oB o1) rfl ?_
      refine v_iload_n (pc := 26) C 13 1 rfl rfl rfl ?_
      obtain ⟨b5, h⟩ := g_okk h
      refine v_iast' (pc := 27) C 14 rfl b5 ?_
      refine v_topM (fun m6 em6 => ?_)
      replace h := g_nm h em6
      refine v_aload_n (pc := 28) C 15 0 rfl rfl rfl ?_
      obtain ⟨t7, qt7, h⟩ := g_bd h
      refine v_getR (pc := 29) C 16 rfl lf_ScopeGraph_Program_23 (g_oB o1) rfl qt7 ?_
      refine v_aload_n (pc := 32) C 17 0 rfl rfl rfl ?_
      refine v_getI (pc := 33) C 18 rfl lf_ScopeGraph_Program_55.get (g_oB o1) rfl ?_
      refine v_iload_n (pc := 36) C 19 2 rfl rfl rfl ?_
      obtain ⟨b8, h⟩ := g_okk h
      refine v_iast' (pc := 37) C 20 rfl b8 ?_
      refine v_topM (fun m9 em9 => ?_)
      replace h := g_nm h em9
      refine v_aload_n (pc := 38) C 21 0 rfl rfl rfl ?_
      obtain ⟨t10, qt10, h⟩ := g_bd h
      refine v_getR (pc := 39) C 22 rfl lf_ScopeGraph_Program_30 (g_oB o1) rfl qt10 ?_
      refine v_aload_n (pc := 42) C 23 0 rfl rfl rfl ?_
      refine v_getI (pc := 43) C 24 rfl lf_ScopeGraph_Program_55.get (g_oB o1) rfl ?_
      refine v_lconst (pc := 46) C 25 0 rfl (by decide) ?_
      obtain ⟨b11, h⟩ := g_okk h
      refine v_last' (pc := 47) C 26 rfl b11 ?_
      refine v_topM (fun m12 em12 => ?_)
      replace h := g_nm h em12
      refine v_aload_n (pc := 48) C 27 0 rfl rfl rfl ?_
      obtain ⟨t13, qt13, h⟩ := g_bd h
      refine v_getR (pc := 49) C 28 rfl lf_ScopeGraph_Program_34 (g_oB o1) rfl qt13 ?_
      refine v_aload_n (pc := 52) C 29 0 rfl rfl rfl ?_
      refine v_getI (pc := 53) C 30 rfl lf_ScopeGraph_Program_55.get (g_oB o1) rfl ?_
      refine v_iconst (pc := 56) C 31 0 rfl (by decide) ?_
      obtain ⟨b14, h⟩ := g_okk h
      refine v_iast' (pc := 57) C 32 rfl b14 ?_
      refine v_topM (fun m15 em15 => ?_)
      replace h := g_nm h em15
      refine v_aload_n (pc := 58) C 33 0 rfl rfl rfl ?_
      refine v_dup (pc := 59) C 34 rfl rfl ?_
      refine v_getI (pc := 60) C 35 rfl lf_ScopeGraph_Program_55.get (g_oB o1) rfl ?_
      refine v_iconst (pc := 63) C 36 1 rfl (by decide) ?_
      refine v_iadd (pc := 64) C 37 rfl ?_
      refine v_putI (pc := 65) C 38 rfl lf_ScopeGraph_Program_55 (g_oB o1) rfl ?_
      refine v_topM (fun m16 em16 => ?_)
      replace h := g_nm h em16
      refine v_aload_n (pc := 68) C 39 0 rfl rfl rfl ?_
      refine v_getI (pc := 69) C 40 rfl lf_ScopeGraph_Program_55.get (g_oB o1) rfl ?_
      refine v_iconst (pc := 72) C 41 1 rfl (by decide) ?_
      refine v_isub (pc := 73) C 42 rfl ?_
      obtain ⟨rfl, rfl⟩ := g_so h
      exact v_iret (pc := 74) C 43 rfl hr
    · replace h := g_ifF c3 h
      refine v_iconst (pc := 16) C 7 (-1) rfl (by decide) ?_
      obtain ⟨rfl, rfl⟩ := g_so h
      exact v_iret (pc := 17) C 8 rfl hr
theorem c_X2_makeScope {l : Launch} {w : gW} {rr : Int32} {rm : gM} (hJ : gJok w) {F : Nat} {x0 : Nat} {x1 : Int32} {x2 : Int32} {m : gM} (h : f_X2_makeScope w.2.2.2.2.1 F x0 x1 x2 m = some (rr, rm)) : gMet l 0 yX2_makeScope cX2_makeScope 3 (some .int) w [.ref x0, .int x1, .int x2] m (some (.int rr)) rm :=
  gMet.of hJ mf_X2_makeScope dk_X2_makeScope (Nat.le_of_ble_eq_true rfl) (fun X _ C hr => tf_X2_makeScope (F := F) C hr h)
def f_X2_empty (sh : List gS) (F : Nat) (x0 : Nat) (m : gM) : Option (gM) :=
  g_if (oB sh x0 2) (nm (gsI m x0 11 0) (fun m2 => nm (gsI m2 x0 12 0) (fun m3 => (m3.2.2 x0 0).bind (fun t4 => g_if (oB sh t4 0) (nm (gsI m3 t4 4 0) (fun m6 => (m6.2.2 x0 1).bind (fun t7 => g_if (oB sh t7 0) (nm (gsI m6 t7 4 0) (fun m9 => (f_X2_makeScope sh F x0 0 (-1) m9).bind (fun q12 => nm q12.1 (fun r11 => nm q12.2 (fun m10 => some m10))))))))))))
set_option maxRecDepth 100000 in
set_option maxHeartbeats 4000000 in
theorem tf_X2_empty {X : gX} {w : gW} {rm : gM} (C : gC X w K_X2_empty 1 RX2 1) (hr : X.2.2.2.2.2.2.2.2.1.sig.returnType = none) {F : Nat} {x0 : Nat} {m : gM} (h : f_X2_empty w.2.2.2.2.1 F x0 m = some rm) : gV X w 0 0 (gR X w none rm) 1 0 [(0, .ref x0)] [] m := by
  unfold f_X2_empty at h
  refine v_aload_n (pc := 0) C 0 0 rfl rfl rfl ?_
  refine v_iconst (pc := 1) C 1 0 rfl (by decide) ?_
  obtain ⟨o1, h⟩ := g_okk h
  refine v_putI (pc := 2) C 2 rfl lf_ScopeGraph_Program_55 (g_oB o1) rfl ?_
  refine v_topM (fun m2 em2 => ?_)
  replace h := g_nm h em2
  refine v_aload_n (pc := 5) C 3 0 rfl rfl rfl ?_
  refine v_iconst (pc := 6) C 4 0 rfl (by decide) ?_
  refine v_putI (pc := 7) C 5 rfl lf_ScopeGraph_Program_59 (g_oB o1) rfl ?_
  refine v_topM (fun m3 em3 => ?_)
  replace h := g_nm h em3
  refine v_aload_n (pc := 10) C 6 0 rfl rfl rfl ?_
  obtain ⟨t4, qt4, h⟩ := g_bd h
  refine v_getR (pc := 11) C 7 rfl lf_ScopeGraph_Program_14 (g_oB o1) rfl qt4 ?_
  refine v_iconst (pc := 14) C 8 0 rfl (by decide) ?_
  obtain ⟨o5, h⟩ := g_okk h
  refine v_putI (pc := 15) C 9 rfl lf_ScopeGraph_Program_62 (g_oB o5) rfl ?_
  refine v_topM (fun m6 em6 => ?_)
  replace h := g_nm h em6
  refine v_aload_n (pc := 18) C 10 0 rfl rfl rfl ?_
  obtain ⟨t7, qt7, h⟩ := g_bd h
  refine v_getR (pc := 19) C 11 rfl lf_ScopeGraph_Program_20 (g_oB o1) rfl qt7 ?_
  refine v_iconst (pc := 22) C 12 0 rfl (by decide) ?_
  obtain ⟨o8, h⟩ := g_okk h
  refine v_putI (pc := 23) C 13 rfl lf_ScopeGraph_Program_62 (g_oB o8) rfl ?_
  refine v_topM (fun m9 em9 => ?_)
  replace h := g_nm h em9
  refine v_aload_n (pc := 26) C 14 0 rfl rfl rfl ?_
  refine v_iconst (pc := 27) C 15 0 rfl (by decide) ?_
  refine v_iconst (pc := 28) C 16 (-1) rfl (by decide) ?_
  obtain ⟨⟨r11, m10⟩, qm10, h⟩ := g_bd h
  replace h := g_nm (y := m10) (g_nm (y := r11) h rfl) rfl
  refine v_callV (pc := 29) C 17 rfl mf_X2_makeScope clX2 rfl im_X2_makeScope lm_ScopeGraph_Program_65 (c_X2_makeScope C.2.2.2.2.2.2.2.2.2.2.2 qm10) (by decide) rfl (g_oB o1) (Nat.le_of_ble_eq_true rfl) ⟨Nat.zero_le _, Nat.zero_le _⟩ rfl ?_
  change gV X w 0 0 (gR X w none rm) 1 32 [(0, .ref x0)] [.int r11] m10
  refine v_pop (pc := 32) C 18 rfl rfl ?_
  cases g_s1' h
  exact v_vret (pc := 33) C 19 rfl hr
theorem c_X2_empty {l : Launch} {w : gW} {rm : gM} (hJ : gJok w) {F : Nat} {x0 : Nat} {m : gM} (h : f_X2_empty w.2.2.2.2.1 F x0 m = some rm) : gMet l 1 yX2_empty cX2_empty 1 none w [.ref x0] m none rm :=
  gMet.of hJ mf_X2_empty dk_X2_empty (Nat.le_of_ble_eq_true rfl) (fun X _ C hr => tf_X2_empty (F := F) C hr h)
def f_X2_declare (sh : List gS) (F : Nat) (x0 : Nat) (x1 : Int32) (x2 : Nat) (m : gM) : Option (Int32 × gM) :=
  g_if (oB sh x0 2) ((m.2.2 x0 0).bind (fun t2 => g_if (oB sh t2 0) ((f_X0_add sh F t2 x1 x2 m).bind (fun q6 => nm q6.1 (fun r5 => nm q6.2 (fun m4 => if r5 < 0 then (some (r5, m4)) else (if x1 < 0 then (some (r5, m4)) else (if (m4.1 x0 11) ≤ x1 then (some (r5, m4)) else ((m4.2.2 x0 6).bind (fun t10 => g_if (aB sh t10 .int r5) (nm (gsI m4 t10 (r5).toNatClampNeg (-1)) (fun m12 => (m12.2.2 x0 4).bind (fun t13 => g_if (aB sh t13 .long x1) (g_if (aB sh t13 .long x1) (nm (gsL m12 t13 (x1).toNatClampNeg ((m12.2.1 t13 (x1).toNatClampNeg) ||| ((1 : Int64) <<< (r5.toInt64 &&& 63)))) (fun m16 => some (r5, m16)))))))))))))))))
set_option maxRecDepth 100000 in
set_option maxHeartbeats 4000000 in
theorem tf_X2_declare {X : gX} {w : gW} {rr : Int32} {rm : gM} (C : gC X w K_X2_declare 4 RX2 1) (hr : X.2.2.2.2.2.2.2.2.1.sig.returnType = (some .int)) {F : Nat} {x0 : Nat} {x1 : Int32} {x2 : Nat} {m : gM} (h : f_X2_declare w.2.2.2.2.1 F x0 x1 x2 m = some (rr, rm)) : gV X w 0 0 (gR X w (some (.int rr)) rm) 4 0 [(0, .ref x0), (1, .int x1), (2, .ref x2)] [] m := by
  unfold f_X2_declare at h
  refine v_aload_n (pc := 0) C 0 0 rfl rfl rfl ?_
  obtain ⟨o1, h⟩ := g_okk h
  obtain ⟨t2, qt2, h⟩ := g_bd h
  refine v_getR (pc := 1) C 1 rfl lf_ScopeGraph_Program_14 (g_oB o1) rfl qt2 ?_
  refine v_iload_n (pc := 4) C 2 1 rfl rfl rfl ?_
  refine v_aload_n (pc := 5) C 3 2 rfl rfl rfl ?_
  obtain ⟨o3, h⟩ := g_okk h
  obtain ⟨⟨r5, m4⟩, qm4, h⟩ := g_bd h
  replace h := g_nm (y := m4) (g_nm (y := r5) h rfl) rfl
  refine v_callV (pc := 6) C 4 rfl mf_X0_add clX0 rfl im_X0_add lm_ScopeGraph_Program_69 (c_X0_add C.2.2.2.2.2.2.2.2.2.2.2 qm4) (by decide) rfl (g_oB o3) (Nat.le_of_ble_eq_true rfl) ⟨Nat.zero_le _, Nat.zero_le _⟩ rfl ?_
  change gV X w 0 0 (gR X w (some (.int rr)) rm) 4 9 [(0, .ref x0), (1, .int x1), (2, .ref x2)] [.int r5] m4
  refine v_istore_n (pc := 9) (lv' := [(3, .int r5), (0, .ref x0), (1, .int x1), (2, .ref x2)]) C 5 rfl rfl (by decide) rfl ?_
  refine v_iload_n (pc := 10) C 6 0 rfl rfl rfl ?_
  refine v_if_lt (pc := 11) C 7 45 rfl (by decide) (fun c7 => ?_) (fun c7 => ?_)
  · replace h := g_ifT c7 h
    refine v_iload_n (pc := 45) C 29 0 rfl rfl rfl ?_
    obtain ⟨rfl, rfl⟩ := g_so h
    exact v_iret (pc := 46) C 30 rfl hr
  · replace h := g_ifF c7 h
    refine v_iload_n (pc := 14) C 8 2 rfl rfl rfl ?_
    refine v_if_lt (pc := 15) C 9 45 rfl (by decide) (fun c8 => ?_) (fun c8 => ?_)
    · replace h := g_ifT c8 h
      refine v_iload_n (pc := 45) C 29 0 rfl rfl rfl ?_
      obtain ⟨rfl, rfl⟩ := g_so h
      exact v_iret (pc := 46) C 30 rfl hr
    · replace h := g_ifF c8 h
      refine v_iload_n (pc := 18) C 10 2 rfl rfl rfl ?_
      refine v_aload_n (pc := 19) C 11 1 rfl rfl rfl ?_
      refine v_getI (pc := 20) C 12 rfl lf_ScopeGraph_Program_55.get (g_oB o1) rfl ?_
      refine v_icmp_ge (pc := 23) C 13 45 rfl (by decide) (fun c9 => ?_) (fun c9 => ?_)
      · replace h := g_ifT c9 h
        refine v_iload_n (pc := 45) C 29 0 rfl rfl rfl ?_
        obtain ⟨rfl, rfl⟩ := g_so h
        exact v_iret (pc := 46) C 30 rfl hr
      · replace h := g_ifF c9 h
        refine v_aload_n (pc := 26) C 14 1 rfl rfl rfl ?_
        obtain ⟨t10, qt10, h⟩ := g_bd h
        refine v_getR (pc := 27) C 15 rfl lf_ScopeGraph_Program_37 (g_oB o1) rfl qt10 ?_
        refine v_iload_n (pc := 30) C 16 0 rfl rfl rfl ?_
        refine v_iconst (pc := 31) C 17 (-1) rfl (by decide) ?_
        obtain ⟨b11, h⟩ := g_okk h
        refine v_iast' (pc := 32) C 18 rfl b11 ?_
        refine v_topM (fun m12 em12 => ?_)
        replace h := g_nm h em12
        refine v_aload_n (pc := 33) C 19 1 rfl rfl rfl ?_
        obtain ⟨t13, qt13, h⟩ := g_bd h
        refine v_getR (pc := 34) C 20 rfl lf_ScopeGraph_Program_30 (g_oB o1) rfl qt13 ?_
        refine v_iload_n (pc := 37) C 21 2 rfl rfl rfl ?_
        refine v_dup2 (pc := 38) C 22 rfl rfl rfl ?_
        obtain ⟨b14, h⟩ := g_okk h
        refine v_lald' (pc := 39) C 23 rfl b14 ?_
        refine v_lconst (pc := 40) C 24 1 rfl (by decide) ?_
        refine v_iload_n (pc := 41) C 25 0 rfl rfl rfl ?_
        refine v_lshl (pc := 42) C 26 rfl ?_
        refine v_lor (pc := 43) C 27 rfl ?_
        obtain ⟨b15, h⟩ := g_okk h
        refine v_last' (pc := 44) C 28 rfl b15 ?_
        refine v_topM (fun m16 em16 => ?_)
        replace h := g_nm h em16
        refine v_iload_n (pc := 45) C 29 0 rfl rfl rfl ?_
        obtain ⟨rfl, rfl⟩ := g_so h
        exact v_iret (pc := 46) C 30 rfl hr
theorem c_X2_declare {l : Launch} {w : gW} {rr : Int32} {rm : gM} (hJ : gJok w) {F : Nat} {x0 : Nat} {x1 : Int32} {x2 : Nat} {m : gM} (h : f_X2_declare w.2.2.2.2.1 F x0 x1 x2 m = some (rr, rm)) : gMet l 1 yX2_declare cX2_declare 4 (some .int) w [.ref x0, .int x1, .ref x2] m (some (.int rr)) rm :=
  gMet.of hJ mf_X2_declare dk_X2_declare (Nat.le_of_ble_eq_true rfl) (fun X _ C hr => tf_X2_declare (F := F) C hr h)
def f_X2_refer (sh : List gS) (F : Nat) (x0 : Nat) (x1 : Int32) (x2 : Nat) (m : gM) : Option (Int32 × gM) :=
  g_if (oB sh x0 2) ((m.2.2 x0 1).bind (fun t2 => g_if (oB sh t2 0) ((f_X0_add sh F t2 x1 x2 m).bind (fun q6 => nm q6.1 (fun r5 => nm q6.2 (fun m4 => if r5 < 0 then (some (r5, m4)) else ((m4.2.2 x0 7).bind (fun t8 => g_if (aB sh t8 .int r5) (nm (gsI m4 t8 (r5).toNatClampNeg (-1)) (fun m10 => (m10.2.2 x0 8).bind (fun t11 => g_if (aB sh t11 .int r5) (nm (gsI m10 t11 (r5).toNatClampNeg (-1)) (fun m13 => some (r5, m13))))))))))))))
set_option maxRecDepth 100000 in
set_option maxHeartbeats 4000000 in
theorem tf_X2_refer {X : gX} {w : gW} {rr : Int32} {rm : gM} (C : gC X w K_X2_refer 4 RX2 1) (hr : X.2.2.2.2.2.2.2.2.1.sig.returnType = (some .int)) {F : Nat} {x0 : Nat} {x1 : Int32} {x2 : Nat} {m : gM} (h : f_X2_refer w.2.2.2.2.1 F x0 x1 x2 m = some (rr, rm)) : gV X w 0 0 (gR X w (some (.int rr)) rm) 4 0 [(0, .ref x0), (1, .int x1), (2, .ref x2)] [] m := by
  unfold f_X2_refer at h
  refine v_aload_n (pc := 0) C 0 0 rfl rfl rfl ?_
  obtain ⟨o1, h⟩ := g_okk h
  obtain ⟨t2, qt2, h⟩ := g_bd h
  refine v_getR (pc := 1) C 1 rfl lf_ScopeGraph_Program_20 (g_oB o1) rfl qt2 ?_
  refine v_iload_n (pc := 4) C 2 1 rfl rfl rfl ?_
  refine v_aload_n (pc := 5) C 3 2 rfl rfl rfl ?_
  obtain ⟨o3, h⟩ := g_okk h
  obtain ⟨⟨r5, m4⟩, qm4, h⟩ := g_bd h
  replace h := g_nm (y := m4) (g_nm (y := r5) h rfl) rfl
  refine v_callV (pc := 6) C 4 rfl mf_X0_add clX0 rfl im_X0_add lm_ScopeGraph_Program_69 (c_X0_add C.2.2.2.2.2.2.2.2.2.2.2 qm4) (by decide) rfl (g_oB o3) (Nat.le_of_ble_eq_true rfl) ⟨Nat.zero_le _, Nat.zero_le _⟩ rfl ?_
  change gV X w 0 0 (gR X w (some (.int rr)) rm) 4 9 [(0, .ref x0), (1, .int x1), (2, .ref x2)] [.int r5] m4
  refine v_istore_n (pc := 9) (lv' := [(3, .int r5), (0, .ref x0), (1, .int x1), (2, .ref x2)]) C 5 rfl rfl (by decide) rfl ?_
  refine v_iload_n (pc := 10) C 6 0 rfl rfl rfl ?_
  refine v_if_lt (pc := 11) C 7 28 rfl (by decide) (fun c7 => ?_) (fun c7 => ?_)
  · replace h := g_ifT c7 h
    refine v_iload_n (pc := 28) C 18 0 rfl rfl rfl ?_
    obtain ⟨rfl, rfl⟩ := g_so h
    exact v_iret (pc := 29) C 19 rfl hr
  · replace h := g_ifF c7 h
    refine v_aload_n (pc := 14) C 8 1 rfl rfl rfl ?_
    obtain ⟨t8, qt8, h⟩ := g_bd h
    refine v_getR (pc := 15) C 9 rfl lf_ScopeGraph_Program_40 (g_oB o1) rfl qt8 ?_
    refine v_iload_n (pc := 18) C 10 0 rfl rfl rfl ?_
    refine v_iconst (pc := 19) C 11 (-1) rfl (by decide) ?_
    obtain ⟨b9, h⟩ := g_okk h
    refine v_iast' (pc := 20) C 12 rfl b9 ?_
    refine v_topM (fun m10 em10 => ?_)
    replace h := g_nm h em10
    refine v_aload_n (pc := 21) C 13 1 rfl rfl rfl ?_
    obtain ⟨t11, qt11, h⟩ := g_bd h
    refine v_getR (pc := 22) C 14 rfl lf_ScopeGraph_Program_43 (g_oB o1) rfl qt11 ?_
    refine v_iload_n (pc := 25) C 15 0 rfl rfl rfl ?_
    refine v_iconst (pc := 26) C 16 (-1) rfl (by decide) ?_
    obtain ⟨b12, h⟩ := g_okk h
    refine v_iast' (pc := 27) C 17 rfl b12 ?_
    refine v_topM (fun m13 em13 => ?_)
    replace h := g_nm h em13
    refine v_iload_n (pc := 28) C 18 0 rfl rfl rfl ?_
    obtain ⟨rfl, rfl⟩ := g_so h
    exact v_iret (pc := 29) C 19 rfl hr
theorem c_X2_refer {l : Launch} {w : gW} {rr : Int32} {rm : gM} (hJ : gJok w) {F : Nat} {x0 : Nat} {x1 : Int32} {x2 : Nat} {m : gM} (h : f_X2_refer w.2.2.2.2.1 F x0 x1 x2 m = some (rr, rm)) : gMet l 1 yX2_refer cX2_refer 4 (some .int) w [.ref x0, .int x1, .ref x2] m (some (.int rr)) rm :=
  gMet.of hJ mf_X2_refer dk_X2_refer (Nat.le_of_ble_eq_true rfl) (fun X _ C hr => tf_X2_refer (F := F) C hr h)
def b_X2_importFrom_66 (sh : List gS) (F : Nat) (k66 : Nat → Int32 → Int32 → Int32 → gM → Option (gM)) (x0 : Nat) (x1 : Int32) (x3 : Int32) (x4 : Int32) (m : gM) : Option (gM) :=
  if x3 < x4 then (g_if (oB sh x0 2) ((m.2.2 x0 9).bind (fun t3 => g_if (aB sh t3 .int (m.1 x0 12)) (nm (gsI m t3 (m.1 x0 12).toNatClampNeg x1) (fun m5 => (m5.2.2 x0 10).bind (fun t6 => g_if (aB sh t6 .int (m5.1 x0 12)) (nm (gsI m5 t6 (m5.1 x0 12).toNatClampNeg x3) (fun m8 => nm (gsI m8 x0 12 ((m8.1 x0 12) + (1 : Int32))) (fun m9 => some m9))))))))) else (g_if (oB sh x0 2) ((m.2.2 x0 8).bind (fun t11 => g_if (aB sh t11 .int x4) (nm (gsI m t11 (x4).toNatClampNeg (m.1 x0 12)) (fun m13 => nm (x4 + Int32.ofInt 1) (fun v14 => k66 x0 x1 x3 v14 m13))))))
set_option maxRecDepth 100000 in
set_option maxHeartbeats 4000000 in
theorem tb_X2_importFrom_66 {X : gX} {w : gW} {rm : gM} (C : gC X w K_X2_importFrom 5 RX2 0) (hr : X.2.2.2.2.2.2.2.2.1.sig.returnType = none) {F : Nat} {k66 : Nat → Int32 → Int32 → Int32 → gM → Option (gM)} (hk66 : ∀ (z0 : Nat) (z1 : Int32) (z3 : Int32) (z4 : Int32) (m : gM), k66 z0 z1 z3 z4 m = some rm → gV X w 0 0 (gR X w none rm) 5 66 [(0, .ref z0), (1, .int z1), (3, .int z3), (4, .int z4)] [] m) {x0 : Nat} {x1 : Int32} {x3 : Int32} {x4 : Int32} {m : gM} (h : b_X2_importFrom_66 w.2.2.2.2.1 F k66 x0 x1 x3 x4 m = some rm) : gV X w 0 0 (gR X w none rm) 5 66 [(0, .ref x0), (1, .int x1), (3, .int x3), (4, .int x4)] [] m := by
  unfold b_X2_importFrom_66 at h
  refine v_iload (pc := 66) C 40 3 rfl rfl ?_
  refine v_iload_n (pc := 68) C 41 2 rfl rfl rfl ?_
  refine v_icmp_gt (pc := 69) C 42 89 rfl (by decide) (fun c1 => ?_) (fun c1 => ?_)
  · replace h := g_ifT c1 h
    refine v_aload_n (pc := 89) C 51 0 rfl rfl rfl ?_
    obtain ⟨o2, h⟩ := g_okk h
    obtain ⟨t3, qt3, h⟩ := g_bd h
    refine v_getR (pc := 90) C 52 rfl lf_ScopeGraph_Program_46 (g_oB o2) rfl qt3 ?_
    refine v_aload_n (pc := 93) C 53 0 rfl rfl rfl ?_
    refine v_getI (pc := 94) C 54 rfl lf_ScopeGraph_Program_59.get (g_oB o2) rfl ?_
    refine v_iload_n (pc := 97) C 55 1 rfl rfl rfl ?_
    obtain ⟨b4, h⟩ := g_okk h
    refine v_iast' (pc := 98) C 56 rfl b4 ?_
    refine v_topM (fun m5 em5 => ?_)
    replace h := g_nm h em5
    refine v_aload_n (pc := 99) C 57 0 rfl rfl rfl ?_
    obtain ⟨t6, qt6, h⟩ := g_bd h
    refine v_getR (pc := 100) C 58 rfl lf_ScopeGraph_Program_49 (g_oB o2) rfl qt6 ?_
    refine v_aload_n (pc := 103) C 59 0 rfl rfl rfl ?_
    refine v_getI (pc := 104) C 60 rfl lf_ScopeGraph_Program_59.get (g_oB o2) rfl ?_
    refine v_iload_n (pc := 107) C 61 2 rfl rfl rfl ?_
    obtain ⟨b7, h⟩ := g_okk h
    refine v_iast' (pc := 108) C 62 rfl b7 ?_
    refine v_topM (fun m8 em8 => ?_)
    replace h := g_nm h em8
    refine v_aload_n (pc := 109) C 63 0 rfl rfl rfl ?_
    refine v_dup (pc := 110) C 64 rfl rfl ?_
    refine v_getI (pc := 111) C 65 rfl lf_ScopeGraph_Program_59.get (g_oB o2) rfl ?_
    refine v_iconst (pc := 114) C 66 1 rfl (by decide) ?_
    refine v_iadd (pc := 115) C 67 rfl ?_
    refine v_putI (pc := 116) C 68 rfl lf_ScopeGraph_Program_59 (g_oB o2) rfl ?_
    refine v_topM (fun m9 em9 => ?_)
    replace h := g_nm h em9
    cases g_s1' h
    exact v_vret (pc := 119) C 69 rfl hr
  · replace h := g_ifF c1 h
    refine v_aload_n (pc := 72) C 43 0 rfl rfl rfl ?_
    obtain ⟨o10, h⟩ := g_okk h
    obtain ⟨t11, qt11, h⟩ := g_bd h
    refine v_getR (pc := 73) C 44 rfl lf_ScopeGraph_Program_43 (g_oB o10) rfl qt11 ?_
    refine v_iload (pc := 76) C 45 3 rfl rfl ?_
    refine v_aload_n (pc := 78) C 46 0 rfl rfl rfl ?_
    refine v_getI (pc := 79) C 47 rfl lf_ScopeGraph_Program_59.get (g_oB o10) rfl ?_
    obtain ⟨b12, h⟩ := g_okk h
    refine v_iast' (pc := 82) C 48 rfl b12 ?_
    refine v_topM (fun m13 em13 => ?_)
    replace h := g_nm h em13
    refine v_iincN (pc := 83) C 49 3 (fun v14 => [(4, .int v14), (0, .ref x0), (1, .int x1), (3, .int x3)]) rfl rfl (by decide) (fun _ => rfl) (fun v14 ev14 => ?_)
    replace h := g_nm h ev14
    refine v_goto (pc := 86) C 50 66 rfl (by decide) ?_
    refine v_sub [(0, .ref x0), (1, .int x1), (3, .int x3), (4, .int v14)] [1, 2, 3, 0] rfl ?_
    exact hk66 _ _ _ _ _ h
def l_X2_importFrom_66 (sh : List gS) (F : Nat) : Nat → Nat → Int32 → Int32 → Int32 → gM → Option (gM)
  | 0 => fun _ _ _ _ _ => none
  | n + 1 => fun x0 x1 x3 x4 m => b_X2_importFrom_66 sh F (l_X2_importFrom_66 sh F n) x0 x1 x3 x4 m
theorem tl_X2_importFrom_66 {X : gX} {w : gW} {rm : gM} (C : gC X w K_X2_importFrom 5 RX2 0) (hr : X.2.2.2.2.2.2.2.2.1.sig.returnType = none) {F : Nat} : ∀ (n : Nat) (x0 : Nat) (x1 : Int32) (x3 : Int32) (x4 : Int32) (m : gM), l_X2_importFrom_66 w.2.2.2.2.1 F n x0 x1 x3 x4 m = some rm → gV X w 0 0 (gR X w none rm) 5 66 [(0, .ref x0), (1, .int x1), (3, .int x3), (4, .int x4)] [] m := by
  intro n
  induction n with
  | zero => intro x0 x1 x3 x4 m h; cases h
  | succ n ih => intro x0 x1 x3 x4 m h; exact tb_X2_importFrom_66 (F := F) C hr ih h
def f_X2_importFrom (sh : List gS) (F : Nat) (x0 : Nat) (x1 : Int32) (x2 : Int32) (m : gM) : Option (gM) :=
  g_if (oB sh x0 2) ((m.2.2 x0 1).bind (fun t2 => g_if (oB sh t2 0) (nm ((m.1 t2 4) - (1 : Int32)) (fun v4 => if x1 < 0 then (some m) else (if v4 < x1 then (some m) else (if (6 : Int32) ≤ (m.1 x0 12) then (some m) else (if x2 < 0 then (some m) else (if x2 < (m.1 x0 11) then ((m.2.2 x0 7).bind (fun t10 => g_if (aB sh t10 .int v4) (nm (gsI m t10 (v4).toNatClampNeg x2) (fun m12 => (m12.2.2 x0 5).bind (fun t13 => g_if (aB sh t13 .int x2) (g_if (aB sh t13 .int x2) (nm (gsI m12 t13 (x2).toNatClampNeg ((m12.1 t13 (x2).toNatClampNeg) ||| ((1 : Int32) <<< ((m12.1 x0 12) &&& 31)))) (fun m16 => l_X2_importFrom_66 sh F F x0 x1 v4 x1 m16)))))))) else (some m)))))))))
set_option maxRecDepth 100000 in
set_option maxHeartbeats 4000000 in
theorem tf_X2_importFrom {X : gX} {w : gW} {rm : gM} (C : gC X w K_X2_importFrom 5 RX2 0) (hr : X.2.2.2.2.2.2.2.2.1.sig.returnType = none) {F : Nat} {x0 : Nat} {x1 : Int32} {x2 : Int32} {m : gM} (h : f_X2_importFrom w.2.2.2.2.1 F x0 x1 x2 m = some rm) : gV X w 0 0 (gR X w none rm) 5 0 [(0, .ref x0), (1, .int x1), (2, .int x2)] [] m := by
  unfold f_X2_importFrom at h
  refine v_aload_n (pc := 0) C 0 0 rfl rfl rfl ?_
  obtain ⟨o1, h⟩ := g_okk h
  obtain ⟨t2, qt2, h⟩ := g_bd h
  refine v_getR (pc := 1) C 1 rfl lf_ScopeGraph_Program_20 (g_oB o1) rfl qt2 ?_
  obtain ⟨o3, h⟩ := g_okk h
  refine v_getI (pc := 4) C 2 rfl lf_ScopeGraph_Program_62.get (g_oB o3) rfl ?_
  refine v_iconst (pc := 7) C 3 1 rfl (by decide) ?_
  refine v_isub (pc := 8) C 4 rfl ?_
  refine v_topI (fun v4 ev4 => ?_)
  replace h := g_nm h ev4
  refine v_istore_n (pc := 9) (lv' := [(3, .int v4), (0, .ref x0), (1, .int x1), (2, .int x2)]) C 5 rfl rfl (by decide) rfl ?_
  refine v_iload_n (pc := 10) C 6 2 rfl rfl rfl ?_
  refine v_if_lt (pc := 11) C 7 40 rfl (by decide) (fun c5 => ?_) (fun c5 => ?_)
  · replace h := g_ifT c5 h
    cases g_s1' h
    exact v_vret (pc := 40) C 21 rfl hr
  · replace h := g_ifF c5 h
    refine v_iload_n (pc := 14) C 8 2 rfl rfl rfl ?_
    refine v_iload_n (pc := 15) C 9 0 rfl rfl rfl ?_
    refine v_icmp_gt (pc := 16) C 10 40 rfl (by decide) (fun c6 => ?_) (fun c6 => ?_)
    · replace h := g_ifT c6 h
      cases g_s1' h
      exact v_vret (pc := 40) C 21 rfl hr
    · replace h := g_ifF c6 h
      refine v_aload_n (pc := 19) C 11 1 rfl rfl rfl ?_
      refine v_getI (pc := 20) C 12 rfl lf_ScopeGraph_Program_59.get (g_oB o1) rfl ?_
      refine v_bipush (pc := 23) C 13 6 rfl (by decide) ?_
      refine v_icmp_ge (pc := 25) C 14 40 rfl (by decide) (fun c7 => ?_) (fun c7 => ?_)
      · replace h := g_ifT c7 h
        cases g_s1' h
        exact v_vret (pc := 40) C 21 rfl hr
      · replace h := g_ifF c7 h
        refine v_iload_n (pc := 28) C 15 3 rfl rfl rfl ?_
        refine v_if_lt (pc := 29) C 16 40 rfl (by decide) (fun c8 => ?_) (fun c8 => ?_)
        · replace h := g_ifT c8 h
          cases g_s1' h
          exact v_vret (pc := 40) C 21 rfl hr
        · replace h := g_ifF c8 h
          refine v_iload_n (pc := 32) C 17 3 rfl rfl rfl ?_
          refine v_aload_n (pc := 33) C 18 1 rfl rfl rfl ?_
          refine v_getI (pc := 34) C 19 rfl lf_ScopeGraph_Program_55.get (g_oB o1) rfl ?_
          refine v_icmp_lt (pc := 37) C 20 41 rfl (by decide) (fun c9 => ?_) (fun c9 => ?_)
          · replace h := g_ifT c9 h
            refine v_aload_n (pc := 41) C 22 1 rfl rfl rfl ?_
            obtain ⟨t10, qt10, h⟩ := g_bd h
            refine v_getR (pc := 42) C 23 rfl lf_ScopeGraph_Program_40 (g_oB o1) rfl qt10 ?_
            refine v_iload_n (pc := 45) C 24 0 rfl rfl rfl ?_
            refine v_iload_n (pc := 46) C 25 3 rfl rfl rfl ?_
            obtain ⟨b11, h⟩ := g_okk h
            refine v_iast' (pc := 47) C 26 rfl b11 ?_
            refine v_topM (fun m12 em12 => ?_)
            replace h := g_nm h em12
            refine v_aload_n (pc := 48) C 27 1 rfl rfl rfl ?_
            obtain ⟨t13, qt13, h⟩ := g_bd h
            refine v_getR (pc := 49) C 28 rfl lf_ScopeGraph_Program_34 (g_oB o1) rfl qt13 ?_
            refine v_iload_n (pc := 52) C 29 3 rfl rfl rfl ?_
            refine v_dup2 (pc := 53) C 30 rfl rfl rfl ?_
            obtain ⟨b14, h⟩ := g_okk h
            refine v_iald' (pc := 54) C 31 rfl b14 ?_
            refine v_iconst (pc := 55) C 32 1 rfl (by decide) ?_
            refine v_aload_n (pc := 56) C 33 1 rfl rfl rfl ?_
            refine v_getI (pc := 57) C 34 rfl lf_ScopeGraph_Program_59.get (g_oB o1) rfl ?_
            refine v_ishl (pc := 60) C 35 rfl ?_
            refine v_ior (pc := 61) C 36 rfl ?_
            obtain ⟨b15, h⟩ := g_okk h
            refine v_iast' (pc := 62) C 37 rfl b15 ?_
            refine v_topM (fun m16 em16 => ?_)
            replace h := g_nm h em16
            refine v_iload_n (pc := 63) C 38 2 rfl rfl rfl ?_
            refine v_istore (pc := 64) (lv' := [(4, .int x1), (3, .int v4), (0, .ref x0), (1, .int x1), (2, .int x2)]) C 39 rfl (by decide) rfl ?_
            refine v_sub [(0, .ref x0), (1, .int x1), (3, .int v4), (4, .int x1)] [2, 3, 1, 0] rfl ?_
            exact tl_X2_importFrom_66 (F := F) C hr _ _ _ _ _ _ h
          · replace h := g_ifF c9 h
            cases g_s1' h
            exact v_vret (pc := 40) C 21 rfl hr
theorem c_X2_importFrom {l : Launch} {w : gW} {rm : gM} (hJ : gJok w) {F : Nat} {x0 : Nat} {x1 : Int32} {x2 : Int32} {m : gM} (h : f_X2_importFrom w.2.2.2.2.1 F x0 x1 x2 m = some rm) : gMet l 0 yX2_importFrom cX2_importFrom 5 none w [.ref x0, .int x1, .int x2] m none rm :=
  gMet.of hJ mf_X2_importFrom dk_X2_importFrom (Nat.le_of_ble_eq_true rfl) (fun X _ C hr => tf_X2_importFrom (F := F) C hr h)
def b_X2_importsInAll_31 (sh : List gS) (F : Nat) (k4 : Nat → Int32 → Int32 → gM → Option (Int32 × gM)) (x0 : Nat) (x2 : Int32) (y0 : Int32) (y1 : Int32) (m : gM) : Option (Int32 × gM) :=
  nm (y1 + y0) (fun v1 => nm (x2 + Int32.ofInt 1) (fun v2 => k4 x0 v1 v2 m))
set_option maxRecDepth 100000 in
set_option maxHeartbeats 4000000 in
theorem tb_X2_importsInAll_31 {X : gX} {w : gW} {rr : Int32} {rm : gM} (C : gC X w K_X2_importsInAll 3 RX2 0) (hr : X.2.2.2.2.2.2.2.2.1.sig.returnType = (some .int)) {F : Nat} {k4 : Nat → Int32 → Int32 → gM → Option (Int32 × gM)} (hk4 : ∀ (z0 : Nat) (z1 : Int32) (z2 : Int32) (m : gM), k4 z0 z1 z2 m = some (rr, rm) → gV X w 0 0 (gR X w (some (.int rr)) rm) 3 4 [(0, .ref z0), (1, .int z1), (2, .int z2)] [] m) {x0 : Nat} {x2 : Int32} {y0 : Int32} {y1 : Int32} {m : gM} (h : b_X2_importsInAll_31 w.2.2.2.2.1 F k4 x0 x2 y0 y1 m = some (rr, rm)) : gV X w 0 0 (gR X w (some (.int rr)) rm) 3 31 [(0, .ref x0), (2, .int x2)] [.int y0, .int y1] m := by
  unfold b_X2_importsInAll_31 at h
  refine v_iadd (pc := 31) C 19 rfl ?_
  refine v_topI (fun v1 ev1 => ?_)
  replace h := g_nm h ev1
  refine v_istore_n (pc := 32) (lv' := [(1, .int v1), (0, .ref x0), (2, .int x2)]) C 20 rfl rfl (by decide) rfl ?_
  refine v_iincN (pc := 33) C 21 2 (fun v2 => [(2, .int v2), (1, .int v1), (0, .ref x0)]) rfl rfl (by decide) (fun _ => rfl) (fun v2 ev2 => ?_)
  replace h := g_nm h ev2
  refine v_goto (pc := 36) C 22 4 rfl (by decide) ?_
  refine v_sub [(0, .ref x0), (1, .int v1), (2, .int v2)] [2, 1, 0] rfl ?_
  exact hk4 _ _ _ _ h
def b_X2_importsInAll_4 (sh : List gS) (F : Nat) (k4 : Nat → Int32 → Int32 → gM → Option (Int32 × gM)) (x0 : Nat) (x1 : Int32) (x2 : Int32) (m : gM) : Option (Int32 × gM) :=
  g_if (oB sh x0 2) ((m.2.2 x0 1).bind (fun t2 => g_if (oB sh t2 0) (if (m.1 t2 4) ≤ x2 then (some (x1, m)) else ((m.2.2 x0 7).bind (fun t5 => g_if (aB sh t5 .int x2) (if (m.1 t5 (x2).toNatClampNeg) = ((-1) : Int32) then (b_X2_importsInAll_31 sh F k4 x0 x2 0 x1 m) else (b_X2_importsInAll_31 sh F k4 x0 x2 1 x1 m)))))))
set_option maxRecDepth 100000 in
set_option maxHeartbeats 4000000 in
theorem tb_X2_importsInAll_4 {X : gX} {w : gW} {rr : Int32} {rm : gM} (C : gC X w K_X2_importsInAll 3 RX2 0) (hr : X.2.2.2.2.2.2.2.2.1.sig.returnType = (some .int)) {F : Nat} {k4 : Nat → Int32 → Int32 → gM → Option (Int32 × gM)} (hk4 : ∀ (z0 : Nat) (z1 : Int32) (z2 : Int32) (m : gM), k4 z0 z1 z2 m = some (rr, rm) → gV X w 0 0 (gR X w (some (.int rr)) rm) 3 4 [(0, .ref z0), (1, .int z1), (2, .int z2)] [] m) {x0 : Nat} {x1 : Int32} {x2 : Int32} {m : gM} (h : b_X2_importsInAll_4 w.2.2.2.2.1 F k4 x0 x1 x2 m = some (rr, rm)) : gV X w 0 0 (gR X w (some (.int rr)) rm) 3 4 [(0, .ref x0), (1, .int x1), (2, .int x2)] [] m := by
  unfold b_X2_importsInAll_4 at h
  refine v_iload_n (pc := 4) C 4 2 rfl rfl rfl ?_
  refine v_aload_n (pc := 5) C 5 0 rfl rfl rfl ?_
  obtain ⟨o1, h⟩ := g_okk h
  obtain ⟨t2, qt2, h⟩ := g_bd h
  refine v_getR (pc := 6) C 6 rfl lf_ScopeGraph_Program_20 (g_oB o1) rfl qt2 ?_
  obtain ⟨o3, h⟩ := g_okk h
  refine v_getI (pc := 9) C 7 rfl lf_ScopeGraph_Program_62.get (g_oB o3) rfl ?_
  refine v_icmp_ge (pc := 12) C 8 39 rfl (by decide) (fun c4 => ?_) (fun c4 => ?_)
  · replace h := g_ifT c4 h
    refine v_iload_n (pc := 39) C 23 1 rfl rfl rfl ?_
    obtain ⟨rfl, rfl⟩ := g_so h
    exact v_iret (pc := 40) C 24 rfl hr
  · replace h := g_ifF c4 h
    refine v_iload_n (pc := 15) C 9 1 rfl rfl rfl ?_
    refine v_aload_n (pc := 16) C 10 0 rfl rfl rfl ?_
    obtain ⟨t5, qt5, h⟩ := g_bd h
    refine v_getR (pc := 17) C 11 rfl lf_ScopeGraph_Program_40 (g_oB o1) rfl qt5 ?_
    refine v_iload_n (pc := 20) C 12 2 rfl rfl rfl ?_
    obtain ⟨b6, h⟩ := g_okk h
    refine v_iald' (pc := 21) C 13 rfl b6 ?_
    refine v_iconst (pc := 22) C 14 (-1) rfl (by decide) ?_
    refine v_icmp_ne (pc := 23) C 15 30 rfl (by decide) (fun c7 => ?_) (fun c7 => ?_)
    · replace h := g_ifF c7 h
      refine v_iconst (pc := 30) C 18 1 rfl (by decide) ?_
      refine v_sub [(0, .ref x0), (2, .int x2)] [0, 2] rfl ?_
      exact tb_X2_importsInAll_31 (F := F) C hr hk4 h
    · replace h := g_ifT c7 h
      refine v_iconst (pc := 26) C 16 0 rfl (by decide) ?_
      refine v_goto (pc := 27) C 17 31 rfl (by decide) ?_
      refine v_sub [(0, .ref x0), (2, .int x2)] [0, 2] rfl ?_
      exact tb_X2_importsInAll_31 (F := F) C hr hk4 h
def l_X2_importsInAll_4 (sh : List gS) (F : Nat) : Nat → Nat → Int32 → Int32 → gM → Option (Int32 × gM)
  | 0 => fun _ _ _ _ => none
  | n + 1 => fun x0 x1 x2 m => b_X2_importsInAll_4 sh F (l_X2_importsInAll_4 sh F n) x0 x1 x2 m
theorem tl_X2_importsInAll_4 {X : gX} {w : gW} {rr : Int32} {rm : gM} (C : gC X w K_X2_importsInAll 3 RX2 0) (hr : X.2.2.2.2.2.2.2.2.1.sig.returnType = (some .int)) {F : Nat} : ∀ (n : Nat) (x0 : Nat) (x1 : Int32) (x2 : Int32) (m : gM), l_X2_importsInAll_4 w.2.2.2.2.1 F n x0 x1 x2 m = some (rr, rm) → gV X w 0 0 (gR X w (some (.int rr)) rm) 3 4 [(0, .ref x0), (1, .int x1), (2, .int x2)] [] m := by
  intro n
  induction n with
  | zero => intro x0 x1 x2 m h; cases h
  | succ n ih => intro x0 x1 x2 m h; exact tb_X2_importsInAll_4 (F := F) C hr ih h
def f_X2_importsInAll (sh : List gS) (F : Nat) (x0 : Nat) (m : gM) : Option (Int32 × gM) :=
  l_X2_importsInAll_4 sh F F x0 0 0 m
set_option maxRecDepth 100000 in
set_option maxHeartbeats 4000000 in
theorem tf_X2_importsInAll {X : gX} {w : gW} {rr : Int32} {rm : gM} (C : gC X w K_X2_importsInAll 3 RX2 0) (hr : X.2.2.2.2.2.2.2.2.1.sig.returnType = (some .int)) {F : Nat} {x0 : Nat} {m : gM} (h : f_X2_importsInAll w.2.2.2.2.1 F x0 m = some (rr, rm)) : gV X w 0 0 (gR X w (some (.int rr)) rm) 3 0 [(0, .ref x0)] [] m := by
  unfold f_X2_importsInAll at h
  refine v_iconst (pc := 0) C 0 0 rfl (by decide) ?_
  refine v_istore_n (pc := 1) (lv' := [(1, .int 0), (0, .ref x0)]) C 1 rfl rfl (by decide) rfl ?_
  refine v_iconst (pc := 2) C 2 0 rfl (by decide) ?_
  refine v_istore_n (pc := 3) (lv' := [(2, .int 0), (1, .int 0), (0, .ref x0)]) C 3 rfl rfl (by decide) rfl ?_
  refine v_sub [(0, .ref x0), (1, .int 0), (2, .int 0)] [2, 1, 0] rfl ?_
  exact tl_X2_importsInAll_4 (F := F) C hr _ _ _ _ _ h
theorem c_X2_importsInAll {l : Launch} {w : gW} {rr : Int32} {rm : gM} (hJ : gJok w) {F : Nat} {x0 : Nat} {m : gM} (h : f_X2_importsInAll w.2.2.2.2.1 F x0 m = some (rr, rm)) : gMet l 0 yX2_importsInAll cX2_importsInAll 3 (some .int) w [.ref x0] m (some (.int rr)) rm :=
  gMet.of hJ mf_X2_importsInAll dk_X2_importsInAll (Nat.le_of_ble_eq_true rfl) (fun X _ C hr => tf_X2_importsInAll (F := F) C hr h)
def b_X2_importsOf_31 (sh : List gS) (F : Nat) (k4 : Nat → Int32 → Int32 → Int32 → gM → Option (Int32 × gM)) (x0 : Nat) (x1 : Int32) (x3 : Int32) (y0 : Int32) (y1 : Int32) (m : gM) : Option (Int32 × gM) :=
  nm (y1 + y0) (fun v1 => nm (x3 + Int32.ofInt 1) (fun v2 => k4 x0 x1 v1 v2 m))
set_option maxRecDepth 100000 in
set_option maxHeartbeats 4000000 in
theorem tb_X2_importsOf_31 {X : gX} {w : gW} {rr : Int32} {rm : gM} (C : gC X w K_X2_importsOf 4 RX2 0) (hr : X.2.2.2.2.2.2.2.2.1.sig.returnType = (some .int)) {F : Nat} {k4 : Nat → Int32 → Int32 → Int32 → gM → Option (Int32 × gM)} (hk4 : ∀ (z0 : Nat) (z1 : Int32) (z2 : Int32) (z3 : Int32) (m : gM), k4 z0 z1 z2 z3 m = some (rr, rm) → gV X w 0 0 (gR X w (some (.int rr)) rm) 4 4 [(0, .ref z0), (1, .int z1), (2, .int z2), (3, .int z3)] [] m) {x0 : Nat} {x1 : Int32} {x3 : Int32} {y0 : Int32} {y1 : Int32} {m : gM} (h : b_X2_importsOf_31 w.2.2.2.2.1 F k4 x0 x1 x3 y0 y1 m = some (rr, rm)) : gV X w 0 0 (gR X w (some (.int rr)) rm) 4 31 [(0, .ref x0), (1, .int x1), (3, .int x3)] [.int y0, .int y1] m := by
  unfold b_X2_importsOf_31 at h
  refine v_iadd (pc := 31) C 19 rfl ?_
  refine v_topI (fun v1 ev1 => ?_)
  replace h := g_nm h ev1
  refine v_istore_n (pc := 32) (lv' := [(2, .int v1), (0, .ref x0), (1, .int x1), (3, .int x3)]) C 20 rfl rfl (by decide) rfl ?_
  refine v_iincN (pc := 33) C 21 3 (fun v2 => [(3, .int v2), (2, .int v1), (0, .ref x0), (1, .int x1)]) rfl rfl (by decide) (fun _ => rfl) (fun v2 ev2 => ?_)
  replace h := g_nm h ev2
  refine v_goto (pc := 36) C 22 4 rfl (by decide) ?_
  refine v_sub [(0, .ref x0), (1, .int x1), (2, .int v1), (3, .int v2)] [2, 3, 1, 0] rfl ?_
  exact hk4 _ _ _ _ _ h
def b_X2_importsOf_4 (sh : List gS) (F : Nat) (k4 : Nat → Int32 → Int32 → Int32 → gM → Option (Int32 × gM)) (x0 : Nat) (x1 : Int32) (x2 : Int32) (x3 : Int32) (m : gM) : Option (Int32 × gM) :=
  g_if (oB sh x0 2) ((m.2.2 x0 1).bind (fun t2 => g_if (oB sh t2 0) (if (m.1 t2 4) ≤ x3 then (some (x2, m)) else ((m.2.2 x0 7).bind (fun t5 => g_if (aB sh t5 .int x3) (if (m.1 t5 (x3).toNatClampNeg) = x1 then (b_X2_importsOf_31 sh F k4 x0 x1 x3 1 x2 m) else (b_X2_importsOf_31 sh F k4 x0 x1 x3 0 x2 m)))))))
set_option maxRecDepth 100000 in
set_option maxHeartbeats 4000000 in
theorem tb_X2_importsOf_4 {X : gX} {w : gW} {rr : Int32} {rm : gM} (C : gC X w K_X2_importsOf 4 RX2 0) (hr : X.2.2.2.2.2.2.2.2.1.sig.returnType = (some .int)) {F : Nat} {k4 : Nat → Int32 → Int32 → Int32 → gM → Option (Int32 × gM)} (hk4 : ∀ (z0 : Nat) (z1 : Int32) (z2 : Int32) (z3 : Int32) (m : gM), k4 z0 z1 z2 z3 m = some (rr, rm) → gV X w 0 0 (gR X w (some (.int rr)) rm) 4 4 [(0, .ref z0), (1, .int z1), (2, .int z2), (3, .int z3)] [] m) {x0 : Nat} {x1 : Int32} {x2 : Int32} {x3 : Int32} {m : gM} (h : b_X2_importsOf_4 w.2.2.2.2.1 F k4 x0 x1 x2 x3 m = some (rr, rm)) : gV X w 0 0 (gR X w (some (.int rr)) rm) 4 4 [(0, .ref x0), (1, .int x1), (2, .int x2), (3, .int x3)] [] m := by
  unfold b_X2_importsOf_4 at h
  refine v_iload_n (pc := 4) C 4 3 rfl rfl rfl ?_
  refine v_aload_n (pc := 5) C 5 0 rfl rfl rfl ?_
  obtain ⟨o1, h⟩ := g_okk h
  obtain ⟨t2, qt2, h⟩ := g_bd h
  refine v_getR (pc := 6) C 6 rfl lf_ScopeGraph_Program_20 (g_oB o1) rfl qt2 ?_
  obtain ⟨o3, h⟩ := g_okk h
  refine v_getI (pc := 9) C 7 rfl lf_ScopeGraph_Program_62.get (g_oB o3) rfl ?_
  refine v_icmp_ge (pc := 12) C 8 39 rfl (by decide) (fun c4 => ?_) (fun c4 => ?_)
  · replace h := g_ifT c4 h
    refine v_iload_n (pc := 39) C 23 2 rfl rfl rfl ?_
    obtain ⟨rfl, rfl⟩ := g_so h
    exact v_iret (pc := 40) C 24 rfl hr
  · replace h := g_ifF c4 h
    refine v_iload_n (pc := 15) C 9 2 rfl rfl rfl ?_
    refine v_aload_n (pc := 16) C 10 0 rfl rfl rfl ?_
    obtain ⟨t5, qt5, h⟩ := g_bd h
    refine v_getR (pc := 17) C 11 rfl lf_ScopeGraph_Program_40 (g_oB o1) rfl qt5 ?_
    refine v_iload_n (pc := 20) C 12 3 rfl rfl rfl ?_
    obtain ⟨b6, h⟩ := g_okk h
    refine v_iald' (pc := 21) C 13 rfl b6 ?_
    refine v_iload_n (pc := 22) C 14 1 rfl rfl rfl ?_
    refine v_icmp_ne (pc := 23) C 15 30 rfl (by decide) (fun c7 => ?_) (fun c7 => ?_)
    · replace h := g_ifF c7 h
      refine v_iconst (pc := 30) C 18 0 rfl (by decide) ?_
      refine v_sub [(0, .ref x0), (1, .int x1), (3, .int x3)] [0, 1, 3] rfl ?_
      exact tb_X2_importsOf_31 (F := F) C hr hk4 h
    · replace h := g_ifT c7 h
      refine v_iconst (pc := 26) C 16 1 rfl (by decide) ?_
      refine v_goto (pc := 27) C 17 31 rfl (by decide) ?_
      refine v_sub [(0, .ref x0), (1, .int x1), (3, .int x3)] [0, 1, 3] rfl ?_
      exact tb_X2_importsOf_31 (F := F) C hr hk4 h
def l_X2_importsOf_4 (sh : List gS) (F : Nat) : Nat → Nat → Int32 → Int32 → Int32 → gM → Option (Int32 × gM)
  | 0 => fun _ _ _ _ _ => none
  | n + 1 => fun x0 x1 x2 x3 m => b_X2_importsOf_4 sh F (l_X2_importsOf_4 sh F n) x0 x1 x2 x3 m
theorem tl_X2_importsOf_4 {X : gX} {w : gW} {rr : Int32} {rm : gM} (C : gC X w K_X2_importsOf 4 RX2 0) (hr : X.2.2.2.2.2.2.2.2.1.sig.returnType = (some .int)) {F : Nat} : ∀ (n : Nat) (x0 : Nat) (x1 : Int32) (x2 : Int32) (x3 : Int32) (m : gM), l_X2_importsOf_4 w.2.2.2.2.1 F n x0 x1 x2 x3 m = some (rr, rm) → gV X w 0 0 (gR X w (some (.int rr)) rm) 4 4 [(0, .ref x0), (1, .int x1), (2, .int x2), (3, .int x3)] [] m := by
  intro n
  induction n with
  | zero => intro x0 x1 x2 x3 m h; cases h
  | succ n ih => intro x0 x1 x2 x3 m h; exact tb_X2_importsOf_4 (F := F) C hr ih h
def f_X2_importsOf (sh : List gS) (F : Nat) (x0 : Nat) (x1 : Int32) (m : gM) : Option (Int32 × gM) :=
  l_X2_importsOf_4 sh F F x0 x1 0 0 m
set_option maxRecDepth 100000 in
set_option maxHeartbeats 4000000 in
theorem tf_X2_importsOf {X : gX} {w : gW} {rr : Int32} {rm : gM} (C : gC X w K_X2_importsOf 4 RX2 0) (hr : X.2.2.2.2.2.2.2.2.1.sig.returnType = (some .int)) {F : Nat} {x0 : Nat} {x1 : Int32} {m : gM} (h : f_X2_importsOf w.2.2.2.2.1 F x0 x1 m = some (rr, rm)) : gV X w 0 0 (gR X w (some (.int rr)) rm) 4 0 [(0, .ref x0), (1, .int x1)] [] m := by
  unfold f_X2_importsOf at h
  refine v_iconst (pc := 0) C 0 0 rfl (by decide) ?_
  refine v_istore_n (pc := 1) (lv' := [(2, .int 0), (0, .ref x0), (1, .int x1)]) C 1 rfl rfl (by decide) rfl ?_
  refine v_iconst (pc := 2) C 2 0 rfl (by decide) ?_
  refine v_istore_n (pc := 3) (lv' := [(3, .int 0), (2, .int 0), (0, .ref x0), (1, .int x1)]) C 3 rfl rfl (by decide) rfl ?_
  refine v_sub [(0, .ref x0), (1, .int x1), (2, .int 0), (3, .int 0)] [2, 3, 1, 0] rfl ?_
  exact tl_X2_importsOf_4 (F := F) C hr _ _ _ _ _ _ h
theorem c_X2_importsOf {l : Launch} {w : gW} {rr : Int32} {rm : gM} (hJ : gJok w) {F : Nat} {x0 : Nat} {x1 : Int32} {m : gM} (h : f_X2_importsOf w.2.2.2.2.1 F x0 x1 m = some (rr, rm)) : gMet l 0 yX2_importsOf cX2_importsOf 4 (some .int) w [.ref x0, .int x1] m (some (.int rr)) rm :=
  gMet.of hJ mf_X2_importsOf dk_X2_importsOf (Nat.le_of_ble_eq_true rfl) (fun X _ C hr => tf_X2_importsOf (F := F) C hr h)
def b_X2_referencesIn_34 (sh : List gS) (F : Nat) (k4 : Nat → Int32 → Int32 → Int32 → gM → Option (Int32 × gM)) (x0 : Nat) (x1 : Int32) (x3 : Int32) (y0 : Int32) (y1 : Int32) (m : gM) : Option (Int32 × gM) :=
  nm (y1 + y0) (fun v1 => nm (x3 + Int32.ofInt 1) (fun v2 => k4 x0 x1 v1 v2 m))
set_option maxRecDepth 100000 in
set_option maxHeartbeats 4000000 in
theorem tb_X2_referencesIn_34 {X : gX} {w : gW} {rr : Int32} {rm : gM} (C : gC X w K_X2_referencesIn 4 RX2 0) (hr : X.2.2.2.2.2.2.2.2.1.sig.returnType = (some .int)) {F : Nat} {k4 : Nat → Int32 → Int32 → Int32 → gM → Option (Int32 × gM)} (hk4 : ∀ (z0 : Nat) (z1 : Int32) (z2 : Int32) (z3 : Int32) (m : gM), k4 z0 z1 z2 z3 m = some (rr, rm) → gV X w 0 0 (gR X w (some (.int rr)) rm) 4 4 [(0, .ref z0), (1, .int z1), (2, .int z2), (3, .int z3)] [] m) {x0 : Nat} {x1 : Int32} {x3 : Int32} {y0 : Int32} {y1 : Int32} {m : gM} (h : b_X2_referencesIn_34 w.2.2.2.2.1 F k4 x0 x1 x3 y0 y1 m = some (rr, rm)) : gV X w 0 0 (gR X w (some (.int rr)) rm) 4 34 [(0, .ref x0), (1, .int x1), (3, .int x3)] [.int y0, .int y1] m := by
  unfold b_X2_referencesIn_34 at h
  refine v_iadd (pc := 34) C 20 rfl ?_
  refine v_topI (fun v1 ev1 => ?_)
  replace h := g_nm h ev1
  refine v_istore_n (pc := 35) (lv' := [(2, .int v1), (0, .ref x0), (1, .int x1), (3, .int x3)]) C 21 rfl rfl (by decide) rfl ?_
  refine v_iincN (pc := 36) C 22 3 (fun v2 => [(3, .int v2), (2, .int v1), (0, .ref x0), (1, .int x1)]) rfl rfl (by decide) (fun _ => rfl) (fun v2 ev2 => ?_)
  replace h := g_nm h ev2
  refine v_goto (pc := 39) C 23 4 rfl (by decide) ?_
  refine v_sub [(0, .ref x0), (1, .int x1), (2, .int v1), (3, .int v2)] [2, 3, 1, 0] rfl ?_
  exact hk4 _ _ _ _ _ h
def b_X2_referencesIn_4 (sh : List gS) (F : Nat) (k4 : Nat → Int32 → Int32 → Int32 → gM → Option (Int32 × gM)) (x0 : Nat) (x1 : Int32) (x2 : Int32) (x3 : Int32) (m : gM) : Option (Int32 × gM) :=
  g_if (oB sh x0 2) ((m.2.2 x0 1).bind (fun t2 => g_if (oB sh t2 0) (if (m.1 t2 4) ≤ x3 then (some (x2, m)) else ((m.2.2 x0 1).bind (fun t5 => g_if (oB sh t5 0) ((m.2.2 t5 0).bind (fun t7 => g_if (aB sh t7 .int x3) (if (m.1 t7 (x3).toNatClampNeg) = x1 then (b_X2_referencesIn_34 sh F k4 x0 x1 x3 1 x2 m) else (b_X2_referencesIn_34 sh F k4 x0 x1 x3 0 x2 m)))))))))
set_option maxRecDepth 100000 in
set_option maxHeartbeats 4000000 in
theorem tb_X2_referencesIn_4 {X : gX} {w : gW} {rr : Int32} {rm : gM} (C : gC X w K_X2_referencesIn 4 RX2 0) (hr : X.2.2.2.2.2.2.2.2.1.sig.returnType = (some .int)) {F : Nat} {k4 : Nat → Int32 → Int32 → Int32 → gM → Option (Int32 × gM)} (hk4 : ∀ (z0 : Nat) (z1 : Int32) (z2 : Int32) (z3 : Int32) (m : gM), k4 z0 z1 z2 z3 m = some (rr, rm) → gV X w 0 0 (gR X w (some (.int rr)) rm) 4 4 [(0, .ref z0), (1, .int z1), (2, .int z2), (3, .int z3)] [] m) {x0 : Nat} {x1 : Int32} {x2 : Int32} {x3 : Int32} {m : gM} (h : b_X2_referencesIn_4 w.2.2.2.2.1 F k4 x0 x1 x2 x3 m = some (rr, rm)) : gV X w 0 0 (gR X w (some (.int rr)) rm) 4 4 [(0, .ref x0), (1, .int x1), (2, .int x2), (3, .int x3)] [] m := by
  unfold b_X2_referencesIn_4 at h
  refine v_iload_n (pc := 4) C 4 3 rfl rfl rfl ?_
  refine v_aload_n (pc := 5) C 5 0 rfl rfl rfl ?_
  obtain ⟨o1, h⟩ := g_okk h
  obtain ⟨t2, qt2, h⟩ := g_bd h
  refine v_getR (pc := 6) C 6 rfl lf_ScopeGraph_Program_20 (g_oB o1) rfl qt2 ?_
  obtain ⟨o3, h⟩ := g_okk h
  refine v_getI (pc := 9) C 7 rfl lf_ScopeGraph_Program_62.get (g_oB o3) rfl ?_
  refine v_icmp_ge (pc := 12) C 8 42 rfl (by decide) (fun c4 => ?_) (fun c4 => ?_)
  · replace h := g_ifT c4 h
    refine v_iload_n (pc := 42) C 24 2 rfl rfl rfl ?_
    obtain ⟨rfl, rfl⟩ := g_so h
    exact v_iret (pc := 43) C 25 rfl hr
  · replace h := g_ifF c4 h
    refine v_iload_n (pc := 15) C 9 2 rfl rfl rfl ?_
    refine v_aload_n (pc := 16) C 10 0 rfl rfl rfl ?_
    obtain ⟨t5, qt5, h⟩ := g_bd h
    refine v_getR (pc := 17) C 11 rfl lf_ScopeGraph_Program_20 (g_oB o1) rfl qt5 ?_
    obtain ⟨o6, h⟩ := g_okk h
    obtain ⟨t7, qt7, h⟩ := g_bd h
    refine v_getR (pc := 20) C 12 rfl lf_ScopeGraph_Program_73 (g_oB o6) rfl qt7 ?_
    refine v_iload_n (pc := 23) C 13 3 rfl rfl rfl ?_
    obtain ⟨b8, h⟩ := g_okk h
    refine v_iald' (pc := 24) C 14 rfl b8 ?_
    refine v_iload_n (pc := 25) C 15 1 rfl rfl rfl ?_
    refine v_icmp_ne (pc := 26) C 16 33 rfl (by decide) (fun c9 => ?_) (fun c9 => ?_)
    · replace h := g_ifF c9 h
      refine v_iconst (pc := 33) C 19 0 rfl (by decide) ?_
      refine v_sub [(0, .ref x0), (1, .int x1), (3, .int x3)] [0, 1, 3] rfl ?_
      exact tb_X2_referencesIn_34 (F := F) C hr hk4 h
    · replace h := g_ifT c9 h
      refine v_iconst (pc := 29) C 17 1 rfl (by decide) ?_
      refine v_goto (pc := 30) C 18 34 rfl (by decide) ?_
      refine v_sub [(0, .ref x0), (1, .int x1), (3, .int x3)] [0, 1, 3] rfl ?_
      exact tb_X2_referencesIn_34 (F := F) C hr hk4 h
def l_X2_referencesIn_4 (sh : List gS) (F : Nat) : Nat → Nat → Int32 → Int32 → Int32 → gM → Option (Int32 × gM)
  | 0 => fun _ _ _ _ _ => none
  | n + 1 => fun x0 x1 x2 x3 m => b_X2_referencesIn_4 sh F (l_X2_referencesIn_4 sh F n) x0 x1 x2 x3 m
theorem tl_X2_referencesIn_4 {X : gX} {w : gW} {rr : Int32} {rm : gM} (C : gC X w K_X2_referencesIn 4 RX2 0) (hr : X.2.2.2.2.2.2.2.2.1.sig.returnType = (some .int)) {F : Nat} : ∀ (n : Nat) (x0 : Nat) (x1 : Int32) (x2 : Int32) (x3 : Int32) (m : gM), l_X2_referencesIn_4 w.2.2.2.2.1 F n x0 x1 x2 x3 m = some (rr, rm) → gV X w 0 0 (gR X w (some (.int rr)) rm) 4 4 [(0, .ref x0), (1, .int x1), (2, .int x2), (3, .int x3)] [] m := by
  intro n
  induction n with
  | zero => intro x0 x1 x2 x3 m h; cases h
  | succ n ih => intro x0 x1 x2 x3 m h; exact tb_X2_referencesIn_4 (F := F) C hr ih h
def f_X2_referencesIn (sh : List gS) (F : Nat) (x0 : Nat) (x1 : Int32) (m : gM) : Option (Int32 × gM) :=
  l_X2_referencesIn_4 sh F F x0 x1 0 0 m
set_option maxRecDepth 100000 in
set_option maxHeartbeats 4000000 in
theorem tf_X2_referencesIn {X : gX} {w : gW} {rr : Int32} {rm : gM} (C : gC X w K_X2_referencesIn 4 RX2 0) (hr : X.2.2.2.2.2.2.2.2.1.sig.returnType = (some .int)) {F : Nat} {x0 : Nat} {x1 : Int32} {m : gM} (h : f_X2_referencesIn w.2.2.2.2.1 F x0 x1 m = some (rr, rm)) : gV X w 0 0 (gR X w (some (.int rr)) rm) 4 0 [(0, .ref x0), (1, .int x1)] [] m := by
  unfold f_X2_referencesIn at h
  refine v_iconst (pc := 0) C 0 0 rfl (by decide) ?_
  refine v_istore_n (pc := 1) (lv' := [(2, .int 0), (0, .ref x0), (1, .int x1)]) C 1 rfl rfl (by decide) rfl ?_
  refine v_iconst (pc := 2) C 2 0 rfl (by decide) ?_
  refine v_istore_n (pc := 3) (lv' := [(3, .int 0), (2, .int 0), (0, .ref x0), (1, .int x1)]) C 3 rfl rfl (by decide) rfl ?_
  refine v_sub [(0, .ref x0), (1, .int x1), (2, .int 0), (3, .int 0)] [2, 3, 1, 0] rfl ?_
  exact tl_X2_referencesIn_4 (F := F) C hr _ _ _ _ _ _ h
theorem c_X2_referencesIn {l : Launch} {w : gW} {rr : Int32} {rm : gM} (hJ : gJok w) {F : Nat} {x0 : Nat} {x1 : Int32} {m : gM} (h : f_X2_referencesIn w.2.2.2.2.1 F x0 x1 m = some (rr, rm)) : gMet l 0 yX2_referencesIn cX2_referencesIn 4 (some .int) w [.ref x0, .int x1] m (some (.int rr)) rm :=
  gMet.of hJ mf_X2_referencesIn dk_X2_referencesIn (Nat.le_of_ble_eq_true rfl) (fun X _ C hr => tf_X2_referencesIn (F := F) C hr h)
def f_X7_lowest (sh : List gS) (F : Nat) (x0 : Int64) (m : gM) : Option (Int32 × gM) :=
  (f_J13_bitCount_95d88 sh F ((x0 &&& (-x0)) - (1 : Int64)) m).bind (fun q3 => nm q3.1 (fun r2 => nm q3.2 (fun m1 => some (r2, m1))))
set_option maxRecDepth 100000 in
set_option maxHeartbeats 4000000 in
theorem tf_X7_lowest {X : gX} {w : gW} {rr : Int32} {rm : gM} (C : gC X w K_X7_lowest 2 RX7 1) (hr : X.2.2.2.2.2.2.2.2.1.sig.returnType = (some .int)) {F : Nat} {x0 : Int64} {m : gM} (h : f_X7_lowest w.2.2.2.2.1 F x0 m = some (rr, rm)) : gV X w 0 0 (gR X w (some (.int rr)) rm) 2 0 [(0, .long x0)] [] m := by
  unfold f_X7_lowest at h
  refine v_lload_n (pc := 0) C 0 0 rfl rfl rfl ?_
  refine v_lload_n (pc := 1) C 1 0 rfl rfl rfl ?_
  refine v_lneg (pc := 2) C 2 rfl ?_
  refine v_land (pc := 3) C 3 rfl ?_
  refine v_lconst (pc := 4) C 4 1 rfl (by decide) ?_
  refine v_lsub (pc := 5) C 5 rfl ?_
  obtain ⟨⟨r2, m1⟩, qm1, h⟩ := g_bd h
  replace h := g_nm (y := m1) (g_nm (y := r2) h rfl) rfl
  refine v_callS (pc := 6) C 6 rfl mf_J13_bitCount_95d88 sm_J13_bitCount_95d88 lm_ScopeGraph_135 (c_J13_bitCount_95d88 C.2.2.2.2.2.2.2.2.2.2.2 qm1) (by decide) rfl (Nat.le_of_ble_eq_true rfl) ⟨Nat.zero_le _, Nat.zero_le _⟩ rfl ?_
  change gV X w 0 0 (gR X w (some (.int rr)) rm) 2 9 [(0, .long x0)] [.int r2] m1
  obtain ⟨rfl, rfl⟩ := g_so h
  exact v_iret (pc := 9) C 7 rfl hr
theorem c_X7_lowest {l : Launch} {w : gW} {rr : Int32} {rm : gM} (hJ : gJok w) {F : Nat} {x0 : Int64} {m : gM} (h : f_X7_lowest w.2.2.2.2.1 F x0 m = some (rr, rm)) : gMet l 1 yX7_lowest cX7_lowest 2 (some .int) w [.long x0] m (some (.int rr)) rm :=
  gMet.of hJ mf_X7_lowest dk_X7_lowest (Nat.le_of_ble_eq_true rfl) (fun X _ C hr => tf_X7_lowest (F := F) C hr h)
def b_X2_ownedBy_48 (sh : List gS) (F : Nat) (k8 : Nat → Int64 → Int64 → Int32 → gM → Option (Int64 × gM)) (x0 : Nat) (x3 : Int64) (x7 : Int32) (y0 : Int64) (y1 : Int64) (m : gM) : Option (Int64 × gM) :=
  nm (y1 ||| y0) (fun v1 => nm (x3 &&& (x3 - (1 : Int64))) (fun v2 => nm (x7 + Int32.ofInt 1) (fun v3 => k8 x0 v2 v1 v3 m)))
set_option maxRecDepth 100000 in
set_option maxHeartbeats 4000000 in
theorem tb_X2_ownedBy_48 {X : gX} {w : gW} {rr : Int64} {rm : gM} (C : gC X w K_X2_ownedBy 9 RX2 2) (hr : X.2.2.2.2.2.2.2.2.1.sig.returnType = (some .long)) {F : Nat} {k8 : Nat → Int64 → Int64 → Int32 → gM → Option (Int64 × gM)} (hk8 : ∀ (z0 : Nat) (z3 : Int64) (z5 : Int64) (z7 : Int32) (m : gM), k8 z0 z3 z5 z7 m = some (rr, rm) → gV X w 0 0 (gR X w (some (.long rr)) rm) 9 8 [(0, .ref z0), (3, .long z3), (5, .long z5), (7, .int z7)] [] m) {x0 : Nat} {x3 : Int64} {x7 : Int32} {y0 : Int64} {y1 : Int64} {m : gM} (h : b_X2_ownedBy_48 w.2.2.2.2.1 F k8 x0 x3 x7 y0 y1 m = some (rr, rm)) : gV X w 0 0 (gR X w (some (.long rr)) rm) 9 48 [(0, .ref x0), (3, .long x3), (7, .int x7)] [.long y0, .long y1] m := by
  unfold b_X2_ownedBy_48 at h
  refine v_lor (pc := 48) C 28 rfl ?_
  refine v_topJ (fun v1 ev1 => ?_)
  replace h := g_nm h ev1
  refine v_lstore (pc := 49) (lv' := [(5, .long v1), (0, .ref x0), (3, .long x3), (7, .int x7)]) C 29 rfl (by decide) rfl ?_
  refine v_lload_n (pc := 51) C 30 2 rfl rfl rfl ?_
  refine v_lload_n (pc := 52) C 31 2 rfl rfl rfl ?_
  refine v_lconst (pc := 53) C 32 1 rfl (by decide) ?_
  refine v_lsub (pc := 54) C 33 rfl ?_
  refine v_land (pc := 55) C 34 rfl ?_
  refine v_topJ (fun v2 ev2 => ?_)
  replace h := g_nm h ev2
  refine v_lstore_n (pc := 56) (lv' := [(3, .long v2), (5, .long v1), (0, .ref x0), (7, .int x7)]) C 35 rfl rfl (by decide) rfl ?_
  refine v_iincN (pc := 57) C 36 3 (fun v3 => [(7, .int v3), (3, .long v2), (5, .long v1), (0, .ref x0)]) rfl rfl (by decide) (fun _ => rfl) (fun v3 ev3 => ?_)
  replace h := g_nm h ev3
  refine v_goto (pc := 60) C 37 8 rfl (by decide) ?_
  refine v_sub [(0, .ref x0), (3, .long v2), (5, .long v1), (7, .int v3)] [3, 1, 2, 0] rfl ?_
  exact hk8 _ _ _ _ _ h
def b_X2_ownedBy_8 (sh : List gS) (F : Nat) (k8 : Nat → Int64 → Int64 → Int32 → gM → Option (Int64 × gM)) (x0 : Nat) (x3 : Int64) (x5 : Int64) (x7 : Int32) (m : gM) : Option (Int64 × gM) :=
  if (64 : Int32) ≤ x7 then (some (x5, m)) else (if x3 = (0 : Int64) then (some (x5, m)) else (g_if (oB sh x0 2) ((m.2.2 x0 6).bind (fun t4 => (f_X7_lowest sh F x3 m).bind (fun q7 => nm q7.1 (fun r6 => nm q7.2 (fun m5 => g_if (aB sh t4 .int r6) (nm (m5.1 t4 (r6).toNatClampNeg) (fun v9 => if v9 = ((-1) : Int32) then (b_X2_ownedBy_48 sh F k8 x0 x3 x7 0 x5 m5) else (b_X2_ownedBy_48 sh F k8 x0 x3 x7 ((1 : Int64) <<< (v9.toInt64 &&& 63)) x5 m5))))))))))
set_option maxRecDepth 100000 in
set_option maxHeartbeats 4000000 in
theorem tb_X2_ownedBy_8 {X : gX} {w : gW} {rr : Int64} {rm : gM} (C : gC X w K_X2_ownedBy 9 RX2 2) (hr : X.2.2.2.2.2.2.2.2.1.sig.returnType = (some .long)) {F : Nat} {k8 : Nat → Int64 → Int64 → Int32 → gM → Option (Int64 × gM)} (hk8 : ∀ (z0 : Nat) (z3 : Int64) (z5 : Int64) (z7 : Int32) (m : gM), k8 z0 z3 z5 z7 m = some (rr, rm) → gV X w 0 0 (gR X w (some (.long rr)) rm) 9 8 [(0, .ref z0), (3, .long z3), (5, .long z5), (7, .int z7)] [] m) {x0 : Nat} {x3 : Int64} {x5 : Int64} {x7 : Int32} {m : gM} (h : b_X2_ownedBy_8 w.2.2.2.2.1 F k8 x0 x3 x5 x7 m = some (rr, rm)) : gV X w 0 0 (gR X w (some (.long rr)) rm) 9 8 [(0, .ref x0), (3, .long x3), (5, .long x5), (7, .int x7)] [] m := by
  unfold b_X2_ownedBy_8 at h
  refine v_iload (pc := 8) C 6 3 rfl rfl ?_
  refine v_bipush (pc := 10) C 7 64 rfl (by decide) ?_
  refine v_icmp_ge (pc := 12) C 8 63 rfl (by decide) (fun c1 => ?_) (fun c1 => ?_)
  · replace h := g_ifT c1 h
    refine v_lload (pc := 63) C 38 2 rfl rfl ?_
    obtain ⟨rfl, rfl⟩ := g_so h
    exact v_lret (pc := 65) C 39 rfl hr
  · replace h := g_ifF c1 h
    refine v_lload_n (pc := 15) C 9 1 rfl rfl rfl ?_
    refine v_lconst (pc := 16) C 10 0 rfl (by decide) ?_
    refine v_lcmp (pc := 17) C 11 rfl ?_
    refine v_lif_eq (pc := 18) C 12 63 rfl (by decide) (fun c2 => ?_) (fun c2 => ?_)
    · replace h := g_ifT c2 h
      refine v_lload (pc := 63) C 38 2 rfl rfl ?_
      obtain ⟨rfl, rfl⟩ := g_so h
      exact v_lret (pc := 65) C 39 rfl hr
    · replace h := g_ifF c2 h
      refine v_aload_n (pc := 21) C 13 0 rfl rfl rfl ?_
      obtain ⟨o3, h⟩ := g_okk h
      obtain ⟨t4, qt4, h⟩ := g_bd h
      refine v_getR (pc := 22) C 14 rfl lf_ScopeGraph_Program_37 (g_oB o3) rfl qt4 ?_
      refine v_lload_n (pc := 25) C 15 1 rfl rfl rfl ?_
      obtain ⟨⟨r6, m5⟩, qm5, h⟩ := g_bd h
      replace h := g_nm (y := m5) (g_nm (y := r6) h rfl) rfl
      refine v_callS (pc := 26) C 16 rfl mf_X7_lowest sm_X7_lowest lm_ScopeGraph_Program_75 (c_X7_lowest C.2.2.2.2.2.2.2.2.2.2.2 qm5) (by decide) rfl (Nat.le_of_ble_eq_true rfl) ⟨Nat.zero_le _, Nat.zero_le _⟩ rfl ?_
      change gV X w 0 0 (gR X w (some (.long rr)) rm) 9 29 [(0, .ref x0), (3, .long x3), (5, .long x5), (7, .int x7)] [.int r6, .ref t4] m5
      obtain ⟨b8, h⟩ := g_okk h
      refine v_iald' (pc := 29) C 17 rfl b8 ?_
      refine v_topI (fun v9 ev9 => ?_)
      replace h := g_nm h ev9
      refine v_istore (pc := 30) (lv' := [(8, .int v9), (0, .ref x0), (3, .long x3), (5, .long x5), (7, .int x7)]) C 18 rfl (by decide) rfl ?_
      refine v_lload (pc := 32) C 19 3 rfl rfl ?_
      refine v_iload (pc := 34) C 20 0 rfl rfl ?_
      refine v_iconst (pc := 36) C 21 (-1) rfl (by decide) ?_
      refine v_icmp_ne (pc := 37) C 22 44 rfl (by decide) (fun c10 => ?_) (fun c10 => ?_)
      · replace h := g_ifF c10 h
        refine v_lconst (pc := 44) C 25 1 rfl (by decide) ?_
        refine v_iload (pc := 45) C 26 0 rfl rfl ?_
        refine v_lshl (pc := 47) C 27 rfl ?_
        refine v_sub [(0, .ref x0), (3, .long x3), (7, .int x7)] [1, 2, 4] rfl ?_
        exact tb_X2_ownedBy_48 (F := F) C hr hk8 h
      · replace h := g_ifT c10 h
        refine v_lconst (pc := 40) C 23 0 rfl (by decide) ?_
        refine v_goto (pc := 41) C 24 48 rfl (by decide) ?_
        refine v_sub [(0, .ref x0), (3, .long x3), (7, .int x7)] [1, 2, 4] rfl ?_
        exact tb_X2_ownedBy_48 (F := F) C hr hk8 h
def l_X2_ownedBy_8 (sh : List gS) (F : Nat) : Nat → Nat → Int64 → Int64 → Int32 → gM → Option (Int64 × gM)
  | 0 => fun _ _ _ _ _ => none
  | n + 1 => fun x0 x3 x5 x7 m => b_X2_ownedBy_8 sh F (l_X2_ownedBy_8 sh F n) x0 x3 x5 x7 m
theorem tl_X2_ownedBy_8 {X : gX} {w : gW} {rr : Int64} {rm : gM} (C : gC X w K_X2_ownedBy 9 RX2 2) (hr : X.2.2.2.2.2.2.2.2.1.sig.returnType = (some .long)) {F : Nat} : ∀ (n : Nat) (x0 : Nat) (x3 : Int64) (x5 : Int64) (x7 : Int32) (m : gM), l_X2_ownedBy_8 w.2.2.2.2.1 F n x0 x3 x5 x7 m = some (rr, rm) → gV X w 0 0 (gR X w (some (.long rr)) rm) 9 8 [(0, .ref x0), (3, .long x3), (5, .long x5), (7, .int x7)] [] m := by
  intro n
  induction n with
  | zero => intro x0 x3 x5 x7 m h; cases h
  | succ n ih => intro x0 x3 x5 x7 m h; exact tb_X2_ownedBy_8 (F := F) C hr ih h
def f_X2_ownedBy (sh : List gS) (F : Nat) (x0 : Nat) (x1 : Int64) (m : gM) : Option (Int64 × gM) :=
  l_X2_ownedBy_8 sh F F x0 x1 0 0 m
set_option maxRecDepth 100000 in
set_option maxHeartbeats 4000000 in
theorem tf_X2_ownedBy {X : gX} {w : gW} {rr : Int64} {rm : gM} (C : gC X w K_X2_ownedBy 9 RX2 2) (hr : X.2.2.2.2.2.2.2.2.1.sig.returnType = (some .long)) {F : Nat} {x0 : Nat} {x1 : Int64} {m : gM} (h : f_X2_ownedBy w.2.2.2.2.1 F x0 x1 m = some (rr, rm)) : gV X w 0 0 (gR X w (some (.long rr)) rm) 9 0 [(0, .ref x0), (1, .long x1)] [] m := by
  unfold f_X2_ownedBy at h
  refine v_lload_n (pc := 0) C 0 1 rfl rfl rfl ?_
  refine v_lstore_n (pc := 1) (lv' := [(3, .long x1), (0, .ref x0), (1, .long x1)]) C 1 rfl rfl (by decide) rfl ?_
  refine v_lconst (pc := 2) C 2 0 rfl (by decide) ?_
  refine v_lstore (pc := 3) (lv' := [(5, .long 0), (3, .long x1), (0, .ref x0), (1, .long x1)]) C 3 rfl (by decide) rfl ?_
  refine v_iconst (pc := 5) C 4 0 rfl (by decide) ?_
  refine v_istore (pc := 6) (lv' := [(7, .int 0), (5, .long 0), (3, .long x1), (0, .ref x0), (1, .long x1)]) C 5 rfl (by decide) rfl ?_
  refine v_sub [(0, .ref x0), (3, .long x1), (5, .long 0), (7, .int 0)] [3, 2, 1, 0] rfl ?_
  exact tl_X2_ownedBy_8 (F := F) C hr _ _ _ _ _ _ h
theorem c_X2_ownedBy {l : Launch} {w : gW} {rr : Int64} {rm : gM} (hJ : gJok w) {F : Nat} {x0 : Nat} {x1 : Int64} {m : gM} (h : f_X2_ownedBy w.2.2.2.2.1 F x0 x1 m = some (rr, rm)) : gMet l 2 yX2_ownedBy cX2_ownedBy 9 (some .long) w [.ref x0, .long x1] m (some (.long rr)) rm :=
  gMet.of hJ mf_X2_ownedBy dk_X2_ownedBy (Nat.le_of_ble_eq_true rfl) (fun X _ C hr => tf_X2_ownedBy (F := F) C hr h)
def f_X3_turnTo (sh : List gS) (F : Nat) (x0 : Nat) (x1 : Int32) (m : gM) : Option (Int32 × gM) :=
  g_if (oB sh x0 3) (nm (gsI m x0 8 x1) (fun m2 => some (0, m2)))
set_option maxRecDepth 100000 in
set_option maxHeartbeats 4000000 in
theorem tf_X3_turnTo {X : gX} {w : gW} {rr : Int32} {rm : gM} (C : gC X w K_X3_turnTo 2 RX3 0) (hr : X.2.2.2.2.2.2.2.2.1.sig.returnType = (some .int)) {F : Nat} {x0 : Nat} {x1 : Int32} {m : gM} (h : f_X3_turnTo w.2.2.2.2.1 F x0 x1 m = some (rr, rm)) : gV X w 0 0 (gR X w (some (.int rr)) rm) 2 0 [(0, .ref x0), (1, .int x1)] [] m := by
  unfold f_X3_turnTo at h
  refine v_aload_n (pc := 0) C 0 0 rfl rfl rfl ?_
  refine v_iload_n (pc := 1) C 1 1 rfl rfl rfl ?_
  obtain ⟨o1, h⟩ := g_okk h
  refine v_putI (pc := 2) C 2 rfl lf_ScopeGraph_Reader_50 (g_oB o1) rfl ?_
  refine v_topM (fun m2 em2 => ?_)
  replace h := g_nm h em2
  refine v_iconst (pc := 5) C 3 0 rfl (by decide) ?_
  obtain ⟨rfl, rfl⟩ := g_so h
  exact v_iret (pc := 6) C 4 rfl hr
theorem c_X3_turnTo {l : Launch} {w : gW} {rr : Int32} {rm : gM} (hJ : gJok w) {F : Nat} {x0 : Nat} {x1 : Int32} {m : gM} (h : f_X3_turnTo w.2.2.2.2.1 F x0 x1 m = some (rr, rm)) : gMet l 0 yX3_turnTo cX3_turnTo 2 (some .int) w [.ref x0, .int x1] m (some (.int rr)) rm :=
  gMet.of hJ mf_X3_turnTo dk_X3_turnTo (Nat.le_of_ble_eq_true rfl) (fun X _ C hr => tf_X3_turnTo (F := F) C hr h)
def f_X3_openTo (sh : List gS) (F : Nat) (x0 : Nat) (x1 : Int32) (m : gM) : Option (Int32 × gM) :=
  g_if (oB sh x0 3) (if (m.1 x0 6) < (20 : Int32) then (nm (gsI m x0 6 ((m.1 x0 6) + (1 : Int32))) (fun m3 => (f_X3_turnTo sh F x0 x1 m3).bind (fun q6 => nm q6.1 (fun r5 => nm q6.2 (fun m4 => some (r5, m4)))))) else (some (3, m)))
set_option maxRecDepth 100000 in
set_option maxHeartbeats 4000000 in
theorem tf_X3_openTo {X : gX} {w : gW} {rr : Int32} {rm : gM} (C : gC X w K_X3_openTo 2 RX3 1) (hr : X.2.2.2.2.2.2.2.2.1.sig.returnType = (some .int)) {F : Nat} {x0 : Nat} {x1 : Int32} {m : gM} (h : f_X3_openTo w.2.2.2.2.1 F x0 x1 m = some (rr, rm)) : gV X w 0 0 (gR X w (some (.int rr)) rm) 2 0 [(0, .ref x0), (1, .int x1)] [] m := by
  unfold f_X3_openTo at h
  refine v_aload_n (pc := 0) C 0 0 rfl rfl rfl ?_
  obtain ⟨o1, h⟩ := g_okk h
  refine v_getI (pc := 1) C 1 rfl lf_ScopeGraph_Reader_44.get (g_oB o1) rfl ?_
  refine v_bipush (pc := 4) C 2 20 rfl (by decide) ?_
  refine v_icmp_lt (pc := 6) C 3 11 rfl (by decide) (fun c2 => ?_) (fun c2 => ?_)
  · replace h := g_ifT c2 h
    refine v_aload_n (pc := 11) C 6 0 rfl rfl rfl ?_
    refine v_dup (pc := 12) C 7 rfl rfl ?_
    refine v_getI (pc := 13) C 8 rfl lf_ScopeGraph_Reader_44.get (g_oB o1) rfl ?_
    refine v_iconst (pc := 16) C 9 1 rfl (by decide) ?_
    refine v_iadd (pc := 17) C 10 rfl ?_
    refine v_putI (pc := 18) C 11 rfl lf_ScopeGraph_Reader_44 (g_oB o1) rfl ?_
    refine v_topM (fun m3 em3 => ?_)
    replace h := g_nm h em3
    refine v_aload_n (pc := 21) C 12 0 rfl rfl rfl ?_
    refine v_iload_n (pc := 22) C 13 1 rfl rfl rfl ?_
    obtain ⟨⟨r5, m4⟩, qm4, h⟩ := g_bd h
    replace h := g_nm (y := m4) (g_nm (y := r5) h rfl) rfl
    refine v_callV (pc := 23) C 14 rfl mf_X3_turnTo clX3 rfl im_X3_turnTo lm_ScopeGraph_Reader_70 (c_X3_turnTo C.2.2.2.2.2.2.2.2.2.2.2 qm4) (by decide) rfl (g_oB o1) (Nat.le_of_ble_eq_true rfl) ⟨Nat.zero_le _, Nat.zero_le _⟩ rfl ?_
    change gV X w 0 0 (gR X w (some (.int rr)) rm) 2 26 [(0, .ref x0), (1, .int x1)] [.int r5] m4
    obtain ⟨rfl, rfl⟩ := g_so h
    exact v_iret (pc := 26) C 15 rfl hr
  · replace h := g_ifF c2 h
    refine v_iconst (pc := 9) C 4 3 rfl (by decide) ?_
    obtain ⟨rfl, rfl⟩ := g_so h
    exact v_iret (pc := 10) C 5 rfl hr
theorem c_X3_openTo {l : Launch} {w : gW} {rr : Int32} {rm : gM} (hJ : gJok w) {F : Nat} {x0 : Nat} {x1 : Int32} {m : gM} (h : f_X3_openTo w.2.2.2.2.1 F x0 x1 m = some (rr, rm)) : gMet l 1 yX3_openTo cX3_openTo 2 (some .int) w [.ref x0, .int x1] m (some (.int rr)) rm :=
  gMet.of hJ mf_X3_openTo dk_X3_openTo (Nat.le_of_ble_eq_true rfl) (fun X _ C hr => tf_X3_openTo (F := F) C hr h)
def f_X3_push (sh : List gS) (F : Nat) (x0 : Nat) (x1 : Int32) (x2 : Int32) (m : gM) : Option (gM) :=
  g_if (oB sh x0 3) (if (m.1 x0 5) < 0 then (some m) else (if (96 : Int32) ≤ (m.1 x0 5) then (some m) else ((m.2.2 x0 1).bind (fun t4 => g_if (aB sh t4 .int (m.1 x0 5)) (nm (gsI m t4 (m.1 x0 5).toNatClampNeg x1) (fun m6 => (m6.2.2 x0 2).bind (fun t7 => g_if (aB sh t7 .int (m6.1 x0 5)) (nm (gsI m6 t7 (m6.1 x0 5).toNatClampNeg (m6.1 x0 7)) (fun m9 => (m9.2.2 x0 3).bind (fun t10 => g_if (aB sh t10 .int (m9.1 x0 5)) (nm (gsI m9 t10 (m9.1 x0 5).toNatClampNeg x2) (fun m12 => nm (gsI m12 x0 5 ((m12.1 x0 5) + (1 : Int32))) (fun m13 => some m13)))))))))))))
set_option maxRecDepth 100000 in
set_option maxHeartbeats 4000000 in
theorem tf_X3_push {X : gX} {w : gW} {rm : gM} (C : gC X w K_X3_push 3 RX3 0) (hr : X.2.2.2.2.2.2.2.2.1.sig.returnType = none) {F : Nat} {x0 : Nat} {x1 : Int32} {x2 : Int32} {m : gM} (h : f_X3_push w.2.2.2.2.1 F x0 x1 x2 m = some rm) : gV X w 0 0 (gR X w none rm) 3 0 [(0, .ref x0), (1, .int x1), (2, .int x2)] [] m := by
  unfold f_X3_push at h
  refine v_aload_n (pc := 0) C 0 0 rfl rfl rfl ?_
  obtain ⟨o1, h⟩ := g_okk h
  refine v_getI (pc := 1) C 1 rfl lf_ScopeGraph_Reader_40.get (g_oB o1) rfl ?_
  refine v_if_lt (pc := 4) C 2 59 rfl (by decide) (fun c2 => ?_) (fun c2 => ?_)
  · replace h := g_ifT c2 h
    cases g_s1' h
    exact v_vret (pc := 59) C 32 rfl hr
  · replace h := g_ifF c2 h
    refine v_aload_n (pc := 7) C 3 0 rfl rfl rfl ?_
    refine v_getI (pc := 8) C 4 rfl lf_ScopeGraph_Reader_40.get (g_oB o1) rfl ?_
    refine v_bipush (pc := 11) C 5 96 rfl (by decide) ?_
    refine v_icmp_ge (pc := 13) C 6 59 rfl (by decide) (fun c3 => ?_) (fun c3 => ?_)
    · replace h := g_ifT c3 h
      cases g_s1' h
      exact v_vret (pc := 59) C 32 rfl hr
    · replace h := g_ifF c3 h
      refine v_aload_n (pc := 16) C 7 0 rfl rfl rfl ?_
      obtain ⟨t4, qt4, h⟩ := g_bd h
      refine v_getR (pc := 17) C 8 rfl lf_ScopeGraph_Reader_18 (g_oB o1) rfl qt4 ?_
      refine v_aload_n (pc := 20) C 9 0 rfl rfl rfl ?_
      refine v_getI (pc := 21) C 10 rfl lf_ScopeGraph_Reader_40.get (g_oB o1) rfl ?_
      refine v_iload_n (pc := 24) C 11 1 rfl rfl rfl ?_
      obtain ⟨b5, h⟩ := g_okk h
      refine v_iast' (pc := 25) C 12 rfl b5 ?_
      refine v_topM (fun m6 em6 => ?_)
      replace h := g_nm h em6
      refine v_aload_n (pc := 26) C 13 0 rfl rfl rfl ?_
      obtain ⟨t7, qt7, h⟩ := g_bd h
      refine v_getR (pc := 27) C 14 rfl lf_ScopeGraph_Reader_22 (g_oB o1) rfl qt7 ?_
      refine v_aload_n (pc := 30) C 15 0 rfl rfl rfl ?_
      refine v_getI (pc := 31) C 16 rfl lf_ScopeGraph_Reader_40.get (g_oB o1) rfl ?_
      refine v_aload_n (pc := 34) C 17 0 rfl rfl rfl ?_
      refine v_getI (pc := 35) C 18 rfl lf_ScopeGraph_Reader_47.get (g_oB o1) rfl ?_
      obtain ⟨b8, h⟩ := g_okk h
      refine v_iast' (pc := 38) C 19 rfl b8 ?_
      refine v_topM (fun m9 em9 => ?_)
      replace h := g_nm h em9
      refine v_aload_n (pc := 39) C 20 0 rfl rfl rfl ?_
      obtain ⟨t10, qt10, h⟩ := g_bd h
      refine v_getR (pc := 40) C 21 rfl lf_ScopeGraph_Reader_25 (g_oB o1) rfl qt10 ?_
      refine v_aload_n (pc := 43) C 22 0 rfl rfl rfl ?_
      refine v_getI (pc := 44) C 23 rfl lf_ScopeGraph_Reader_40.get (g_oB o1) rfl ?_
      refine v_iload_n (pc := 47) C 24 2 rfl rfl rfl ?_
      obtain ⟨b11, h⟩ := g_okk h
      refine v_iast' (pc := 48) C 25 rfl b11 ?_
      refine v_topM (fun m12 em12 => ?_)
      replace h := g_nm h em12
      refine v_aload_n (pc := 49) C 26 0 rfl rfl rfl ?_
      refine v_dup (pc := 50) C 27 rfl rfl ?_
      refine v_getI (pc := 51) C 28 rfl lf_ScopeGraph_Reader_40.get (g_oB o1) rfl ?_
      refine v_iconst (pc := 54) C 29 1 rfl (by decide) ?_
      refine v_iadd (pc := 55) C 30 rfl ?_
      refine v_putI (pc := 56) C 31 rfl lf_ScopeGraph_Reader_40 (g_oB o1) rfl ?_
      refine v_topM (fun m13 em13 => ?_)
      replace h := g_nm h em13
      cases g_s1' h
      exact v_vret (pc := 59) C 32 rfl hr
theorem c_X3_push {l : Launch} {w : gW} {rm : gM} (hJ : gJok w) {F : Nat} {x0 : Nat} {x1 : Int32} {x2 : Int32} {m : gM} (h : f_X3_push w.2.2.2.2.1 F x0 x1 x2 m = some rm) : gMet l 0 yX3_push cX3_push 3 none w [.ref x0, .int x1, .int x2] m none rm :=
  gMet.of hJ mf_X3_push dk_X3_push (Nat.le_of_ble_eq_true rfl) (fun X _ C hr => tf_X3_push (F := F) C hr h)
def f_X3_takeFirstOfLong (sh : List gS) (F : Nat) (x0 : Nat) (m : gM) : Option (Int32 × gM) :=
  g_if (oB sh x0 3) ((m.2.2 x0 4).bind (fun t2 => (m.2.2 x0 0).bind (fun t3 => g_if (oB sh t2 2) ((f_X2_refer sh F t2 (m.1 x0 7) t3 m).bind (fun q7 => nm q7.1 (fun r6 => nm q7.2 (fun m5 => if r6 = ((-1) : Int32) then (some (4, m5)) else ((f_X3_turnTo sh F x0 11 m5).bind (fun q11 => nm q11.1 (fun r10 => nm q11.2 (fun m9 => some (r10, m9))))))))))))
set_option maxRecDepth 100000 in
set_option maxHeartbeats 4000000 in
theorem tf_X3_takeFirstOfLong {X : gX} {w : gW} {rr : Int32} {rm : gM} (C : gC X w K_X3_takeFirstOfLong 1 RX3 2) (hr : X.2.2.2.2.2.2.2.2.1.sig.returnType = (some .int)) {F : Nat} {x0 : Nat} {m : gM} (h : f_X3_takeFirstOfLong w.2.2.2.2.1 F x0 m = some (rr, rm)) : gV X w 0 0 (gR X w (some (.int rr)) rm) 1 0 [(0, .ref x0)] [] m := by
  unfold f_X3_takeFirstOfLong at h
  refine v_aload_n (pc := 0) C 0 0 rfl rfl rfl ?_
  obtain ⟨o1, h⟩ := g_okk h
  obtain ⟨t2, qt2, h⟩ := g_bd h
  refine v_getR (pc := 1) C 1 rfl lf_ScopeGraph_Reader_28.get (g_oB o1) rfl qt2 ?_
  refine v_aload_n (pc := 4) C 2 0 rfl rfl rfl ?_
  refine v_getI (pc := 5) C 3 rfl lf_ScopeGraph_Reader_47.get (g_oB o1) rfl ?_
  refine v_aload_n (pc := 8) C 4 0 rfl rfl rfl ?_
  obtain ⟨t3, qt3, h⟩ := g_bd h
  refine v_getR (pc := 9) C 5 rfl lf_ScopeGraph_Reader_12 (g_oB o1) rfl qt3 ?_
  obtain ⟨o4, h⟩ := g_okk h
  obtain ⟨⟨r6, m5⟩, qm5, h⟩ := g_bd h
  replace h := g_nm (y := m5) (g_nm (y := r6) h rfl) rfl
  refine v_callV (pc := 12) C 6 rfl mf_X2_refer clX2 rfl im_X2_refer lm_ScopeGraph_Reader_171 (c_X2_refer C.2.2.2.2.2.2.2.2.2.2.2 qm5) (by decide) rfl (g_oB o4) (Nat.le_of_ble_eq_true rfl) ⟨Nat.zero_le _, Nat.zero_le _⟩ rfl ?_
  change gV X w 0 0 (gR X w (some (.int rr)) rm) 1 15 [(0, .ref x0)] [.int r6] m5
  refine v_iconst (pc := 15) C 7 (-1) rfl (by decide) ?_
  refine v_icmp_ne (pc := 16) C 8 23 rfl (by decide) (fun c8 => ?_) (fun c8 => ?_)
  · replace h := g_ifF c8 h
    refine v_aload_n (pc := 23) C 11 0 rfl rfl rfl ?_
    refine v_bipush (pc := 24) C 12 11 rfl (by decide) ?_
    obtain ⟨⟨r10, m9⟩, qm9, h⟩ := g_bd h
    replace h := g_nm (y := m9) (g_nm (y := r10) h rfl) rfl
    refine v_callV (pc := 26) C 13 rfl mf_X3_turnTo clX3 rfl im_X3_turnTo lm_ScopeGraph_Reader_70 (c_X3_turnTo C.2.2.2.2.2.2.2.2.2.2.2 qm9) (by decide) rfl (g_oB o1) (Nat.le_of_ble_eq_true rfl) ⟨Nat.zero_le _, Nat.zero_le _⟩ rfl ?_
    change gV X w 0 0 (gR X w (some (.int rr)) rm) 1 29 [(0, .ref x0)] [.int r10] m9
    obtain ⟨rfl, rfl⟩ := g_so h
    exact v_iret (pc := 29) C 14 rfl hr
  · replace h := g_ifT c8 h
    refine v_iconst (pc := 19) C 9 4 rfl (by decide) ?_
    refine v_goto (pc := 20) C 10 29 rfl (by decide) ?_
    obtain ⟨rfl, rfl⟩ := g_so h
    exact v_iret (pc := 29) C 14 rfl hr
theorem c_X3_takeFirstOfLong {l : Launch} {w : gW} {rr : Int32} {rm : gM} (hJ : gJok w) {F : Nat} {x0 : Nat} {m : gM} (h : f_X3_takeFirstOfLong w.2.2.2.2.1 F x0 m = some (rr, rm)) : gMet l 2 yX3_takeFirstOfLong cX3_takeFirstOfLong 1 (some .int) w [.ref x0] m (some (.int rr)) rm :=
  gMet.of hJ mf_X3_takeFirstOfLong dk_X3_takeFirstOfLong (Nat.le_of_ble_eq_true rfl) (fun X _ C hr => tf_X3_takeFirstOfLong (F := F) C hr h)
def f_X3_takeScopeWord (sh : List gS) (F : Nat) (x0 : Nat) (x1 : Int32) (x2 : Int32) (m : gM) : Option (Int32 × gM) :=
  g_if (oB sh x0 3) ((m.2.2 x0 4).bind (fun t2 => g_if (oB sh t2 2) ((f_X2_makeScope sh F t2 x1 (m.1 x0 7) m).bind (fun q6 => nm q6.1 (fun r5 => nm q6.2 (fun m4 => if r5 = ((-1) : Int32) then (some (5, m4)) else ((f_X3_push sh F x0 x1 r5 m4).bind (fun m8 => (f_X3_turnTo sh F x0 x2 m8).bind (fun q12 => nm q12.1 (fun r11 => nm q12.2 (fun m10 => some (r11, m10))))))))))))
set_option maxRecDepth 100000 in
set_option maxHeartbeats 4000000 in
theorem tf_X3_takeScopeWord {X : gX} {w : gW} {rr : Int32} {rm : gM} (C : gC X w K_X3_takeScopeWord 4 RX3 1) (hr : X.2.2.2.2.2.2.2.2.1.sig.returnType = (some .int)) {F : Nat} {x0 : Nat} {x1 : Int32} {x2 : Int32} {m : gM} (h : f_X3_takeScopeWord w.2.2.2.2.1 F x0 x1 x2 m = some (rr, rm)) : gV X w 0 0 (gR X w (some (.int rr)) rm) 4 0 [(0, .ref x0), (1, .int x1), (2, .int x2)] [] m := by
  unfold f_X3_takeScopeWord at h
  refine v_aload_n (pc := 0) C 0 0 rfl rfl rfl ?_
  obtain ⟨o1, h⟩ := g_okk h
  obtain ⟨t2, qt2, h⟩ := g_bd h
  refine v_getR (pc := 1) C 1 rfl lf_ScopeGraph_Reader_28.get (g_oB o1) rfl qt2 ?_
  refine v_iload_n (pc := 4) C 2 1 rfl rfl rfl ?_
  refine v_aload_n (pc := 5) C 3 0 rfl rfl rfl ?_
  refine v_getI (pc := 6) C 4 rfl lf_ScopeGraph_Reader_47.get (g_oB o1) rfl ?_
  obtain ⟨o3, h⟩ := g_okk h
  obtain ⟨⟨r5, m4⟩, qm4, h⟩ := g_bd h
  replace h := g_nm (y := m4) (g_nm (y := r5) h rfl) rfl
  refine v_callV (pc := 9) C 5 rfl mf_X2_makeScope clX2 rfl im_X2_makeScope lm_ScopeGraph_Reader_103 (c_X2_makeScope C.2.2.2.2.2.2.2.2.2.2.2 qm4) (by decide) rfl (g_oB o3) (Nat.le_of_ble_eq_true rfl) ⟨Nat.zero_le _, Nat.zero_le _⟩ rfl ?_
  change gV X w 0 0 (gR X w (some (.int rr)) rm) 4 12 [(0, .ref x0), (1, .int x1), (2, .int x2)] [.int r5] m4
  refine v_istore_n (pc := 12) (lv' := [(3, .int r5), (0, .ref x0), (1, .int x1), (2, .int x2)]) C 6 rfl rfl (by decide) rfl ?_
  refine v_iload_n (pc := 13) C 7 0 rfl rfl rfl ?_
  refine v_iconst (pc := 14) C 8 (-1) rfl (by decide) ?_
  refine v_icmp_ne (pc := 15) C 9 20 rfl (by decide) (fun c7 => ?_) (fun c7 => ?_)
  · replace h := g_ifF c7 h
    refine v_aload_n (pc := 20) C 12 1 rfl rfl rfl ?_
    refine v_iload_n (pc := 21) C 13 2 rfl rfl rfl ?_
    refine v_iload_n (pc := 22) C 14 0 rfl rfl rfl ?_
    obtain ⟨m8, qm8, h⟩ := g_bd h
    refine v_callV (pc := 23) C 15 rfl mf_X3_push clX3 rfl im_X3_push lm_ScopeGraph_Reader_95 (c_X3_push C.2.2.2.2.2.2.2.2.2.2.2 qm8) (by decide) rfl (g_oB o1) (Nat.le_of_ble_eq_true rfl) ⟨Nat.zero_le _, Nat.zero_le _⟩ rfl ?_
    change gV X w 0 0 (gR X w (some (.int rr)) rm) 4 26 [(3, .int r5), (0, .ref x0), (1, .int x1), (2, .int x2)] [] m8
    refine v_aload_n (pc := 26) C 16 1 rfl rfl rfl ?_
    refine v_iload_n (pc := 27) C 17 3 rfl rfl rfl ?_
    obtain ⟨⟨r11, m10⟩, qm10, h⟩ := g_bd h
    replace h := g_nm (y := m10) (g_nm (y := r11) h rfl) rfl
    refine v_callV (pc := 28) C 18 rfl mf_X3_turnTo clX3 rfl im_X3_turnTo lm_ScopeGraph_Reader_70 (c_X3_turnTo C.2.2.2.2.2.2.2.2.2.2.2 qm10) (by decide) rfl (g_oB o1) (Nat.le_of_ble_eq_true rfl) ⟨Nat.zero_le _, Nat.zero_le _⟩ rfl ?_
    change gV X w 0 0 (gR X w (some (.int rr)) rm) 4 31 [(3, .int r5), (0, .ref x0), (1, .int x1), (2, .int x2)] [.int r11] m10
    obtain ⟨rfl, rfl⟩ := g_so h
    exact v_iret (pc := 31) C 19 rfl hr
  · replace h := g_ifT c7 h
    refine v_iconst (pc := 18) C 10 5 rfl (by decide) ?_
    obtain ⟨rfl, rfl⟩ := g_so h
    exact v_iret (pc := 19) C 11 rfl hr
theorem c_X3_takeScopeWord {l : Launch} {w : gW} {rr : Int32} {rm : gM} (hJ : gJok w) {F : Nat} {x0 : Nat} {x1 : Int32} {x2 : Int32} {m : gM} (h : f_X3_takeScopeWord w.2.2.2.2.1 F x0 x1 x2 m = some (rr, rm)) : gMet l 1 yX3_takeScopeWord cX3_takeScopeWord 4 (some .int) w [.ref x0, .int x1, .int x2] m (some (.int rr)) rm :=
  gMet.of hJ mf_X3_takeScopeWord dk_X3_takeScopeWord (Nat.le_of_ble_eq_true rfl) (fun X _ C hr => tf_X3_takeScopeWord (F := F) C hr h)
def f_X3_takeAtom (sh : List gS) (F : Nat) (x0 : Nat) (x1 : Int32) (m : gM) : Option (Int32 × gM) :=
  if x1 = 40 then (g_if (oB sh x0 3) ((f_X3_push sh F x0 12 (m.1 x0 7) m).bind (fun m3 => (f_X3_openTo sh F x0 10 m3).bind (fun q7 => nm q7.1 (fun r6 => nm q7.2 (fun m5 => some (r6, m5))))))) else (if x1 = 259 then (g_if (oB sh x0 3) ((f_X3_takeScopeWord sh F x0 2 4 m).bind (fun q12 => nm q12.1 (fun r11 => nm q12.2 (fun m10 => some (r11, m10)))))) else (if x1 = 260 then (g_if (oB sh x0 3) ((f_X3_push sh F x0 3 (m.1 x0 7) m).bind (fun m15 => (f_X3_turnTo sh F x0 5 m15).bind (fun q19 => nm q19.1 (fun r18 => nm q19.2 (fun m17 => some (r18, m17))))))) else (if x1 = 261 then (g_if (oB sh x0 3) ((f_X3_takeScopeWord sh F x0 4 5 m).bind (fun q24 => nm q24.1 (fun r23 => nm q24.2 (fun m22 => some (r23, m22)))))) else (if x1 = 262 then (g_if (oB sh x0 3) ((f_X3_takeScopeWord sh F x0 5 5 m).bind (fun q29 => nm q29.1 (fun r28 => nm q29.2 (fun m27 => some (r28, m27)))))) else (if x1 = 264 then (g_if (oB sh x0 3) ((f_X3_takeFirstOfLong sh F x0 m).bind (fun q34 => nm q34.1 (fun r33 => nm q34.2 (fun m32 => some (r33, m32)))))) else (if x1 = 265 then (g_if (oB sh x0 3) ((f_X3_turnTo sh F x0 12 m).bind (fun q39 => nm q39.1 (fun r38 => nm q39.2 (fun m37 => some (r38, m37)))))) else (some (2, m))))))))
set_option maxRecDepth 100000 in
set_option maxHeartbeats 4000000 in
theorem tf_X3_takeAtom {X : gX} {w : gW} {rr : Int32} {rm : gM} (C : gC X w K_X3_takeAtom 2 RX3 3) (hr : X.2.2.2.2.2.2.2.2.1.sig.returnType = (some .int)) {F : Nat} {x0 : Nat} {x1 : Int32} {m : gM} (h : f_X3_takeAtom w.2.2.2.2.1 F x0 x1 m = some (rr, rm)) : gV X w 0 0 (gR X w (some (.int rr)) rm) 2 0 [(0, .ref x0), (1, .int x1)] [] m := by
  unfold f_X3_takeAtom at h
  refine v_iload_n (pc := 0) C 0 1 rfl rfl rfl ?_
  by_cases c1 : x1 = 40
  · replace h := g_ifT c1 h
    refine v_lookup (pc := 1) C 1 80 rfl (by decide) (by rw [c1]) (by decide) ?_
    refine v_aload_n (pc := 80) C 9 0 rfl rfl rfl ?_
    refine v_bipush (pc := 81) C 10 12 rfl (by decide) ?_
    refine v_aload_n (pc := 83) C 11 0 rfl rfl rfl ?_
    obtain ⟨o2, h⟩ := g_okk h
    refine v_getI (pc := 84) C 12 rfl lf_ScopeGraph_Reader_47.get (g_oB o2) rfl ?_
    obtain ⟨m3, qm3, h⟩ := g_bd h
    refine v_callV (pc := 87) C 13 rfl mf_X3_push clX3 rfl im_X3_push lm_ScopeGraph_Reader_95 (c_X3_push C.2.2.2.2.2.2.2.2.2.2.2 qm3) (by decide) rfl (g_oB o2) (Nat.le_of_ble_eq_true rfl) ⟨Nat.zero_le _, Nat.zero_le _⟩ rfl ?_
    change gV X w 0 0 (gR X w (some (.int rr)) rm) 2 90 [(0, .ref x0), (1, .int x1)] [] m3
    refine v_aload_n (pc := 90) C 14 0 rfl rfl rfl ?_
    refine v_bipush (pc := 91) C 15 10 rfl (by decide) ?_
    obtain ⟨⟨r6, m5⟩, qm5, h⟩ := g_bd h
    replace h := g_nm (y := m5) (g_nm (y := r6) h rfl) rfl
    refine v_callV (pc := 93) C 16 rfl mf_X3_openTo clX3 rfl im_X3_openTo lm_ScopeGraph_Reader_73 (c_X3_openTo C.2.2.2.2.2.2.2.2.2.2.2 qm5) (by decide) rfl (g_oB o2) (Nat.le_of_ble_eq_true rfl) ⟨Nat.zero_le _, Nat.zero_le _⟩ rfl ?_
    change gV X w 0 0 (gR X w (some (.int rr)) rm) 2 96 [(0, .ref x0), (1, .int x1)] [.int r6] m5
    obtain ⟨rfl, rfl⟩ := g_so h
    exact v_iret (pc := 96) C 17 rfl hr
  · replace h := g_ifF c1 h
    have zc1 := g_tne (n := 40) (by decide) c1
    by_cases c8 : x1 = 259
    · replace h := g_ifT c8 h
      refine v_lookup (pc := 1) C 1 97 rfl (by decide) (by rw [c8]) (by decide) ?_
      refine v_aload_n (pc := 97) C 18 0 rfl rfl rfl ?_
      refine v_iconst (pc := 98) C 19 2 rfl (by decide) ?_
      refine v_iconst (pc := 99) C 20 4 rfl (by decide) ?_
      obtain ⟨o9, h⟩ := g_okk h
      obtain ⟨⟨r11, m10⟩, qm10, h⟩ := g_bd h
      replace h := g_nm (y := m10) (g_nm (y := r11) h rfl) rfl
      refine v_callV (pc := 100) C 21 rfl mf_X3_takeScopeWord clX3 rfl im_X3_takeScopeWord lm_ScopeGraph_Reader_99 (c_X3_takeScopeWord C.2.2.2.2.2.2.2.2.2.2.2 qm10) (by decide) rfl (g_oB o9) (Nat.le_of_ble_eq_true rfl) ⟨Nat.zero_le _, Nat.zero_le _⟩ rfl ?_
      change gV X w 0 0 (gR X w (some (.int rr)) rm) 2 103 [(0, .ref x0), (1, .int x1)] [.int r11] m10
      obtain ⟨rfl, rfl⟩ := g_so h
      exact v_iret (pc := 103) C 22 rfl hr
    · replace h := g_ifF c8 h
      have zc8 := g_tne (n := 259) (by decide) c8
      by_cases c13 : x1 = 260
      · replace h := g_ifT c13 h
        refine v_lookup (pc := 1) C 1 118 rfl (by decide) (by rw [c13]) (by decide) ?_
        refine v_aload_n (pc := 118) C 33 0 rfl rfl rfl ?_
        refine v_iconst (pc := 119) C 34 3 rfl (by decide) ?_
        refine v_aload_n (pc := 120) C 35 0 rfl rfl rfl ?_
        obtain ⟨o14, h⟩ := g_okk h
        refine v_getI (pc := 121) C 36 rfl lf_ScopeGraph_Reader_47.get (g_oB o14) rfl ?_
        obtain ⟨m15, qm15, h⟩ := g_bd h
        refine v_callV (pc := 124) C 37 rfl mf_X3_push clX3 rfl im_X3_push lm_ScopeGraph_Reader_95 (c_X3_push C.2.2.2.2.2.2.2.2.2.2.2 qm15) (by decide) rfl (g_oB o14) (Nat.le_of_ble_eq_true rfl) ⟨Nat.zero_le _, Nat.zero_le _⟩ rfl ?_
        change gV X w 0 0 (gR X w (some (.int rr)) rm) 2 127 [(0, .ref x0), (1, .int x1)] [] m15
        refine v_aload_n (pc := 127) C 38 0 rfl rfl rfl ?_
        refine v_iconst (pc := 128) C 39 5 rfl (by decide) ?_
        obtain ⟨⟨r18, m17⟩, qm17, h⟩ := g_bd h
        replace h := g_nm (y := m17) (g_nm (y := r18) h rfl) rfl
        refine v_callV (pc := 129) C 40 rfl mf_X3_turnTo clX3 rfl im_X3_turnTo lm_ScopeGraph_Reader_70 (c_X3_turnTo C.2.2.2.2.2.2.2.2.2.2.2 qm17) (by decide) rfl (g_oB o14) (Nat.le_of_ble_eq_true rfl) ⟨Nat.zero_le _, Nat.zero_le _⟩ rfl ?_
        change gV X w 0 0 (gR X w (some (.int rr)) rm) 2 132 [(0, .ref x0), (1, .int x1)] [.int r18] m17
        obtain ⟨rfl, rfl⟩ := g_so h
        exact v_iret (pc := 132) C 41 rfl hr
      · replace h := g_ifF c13 h
        have zc13 := g_tne (n := 260) (by decide) c13
        by_cases c20 : x1 = 261
        · replace h := g_ifT c20 h
          refine v_lookup (pc := 1) C 1 104 rfl (by decide) (by rw [c20]) (by decide) ?_
          refine v_aload_n (pc := 104) C 23 0 rfl rfl rfl ?_
          refine v_iconst (pc := 105) C 24 4 rfl (by decide) ?_
          refine v_iconst (pc := 106) C 25 5 rfl (by decide) ?_
          obtain ⟨o21, h⟩ := g_okk h
          obtain ⟨⟨r23, m22⟩, qm22, h⟩ := g_bd h
          replace h := g_nm (y := m22) (g_nm (y := r23) h rfl) rfl
          refine v_callV (pc := 107) C 26 rfl mf_X3_takeScopeWord clX3 rfl im_X3_takeScopeWord lm_ScopeGraph_Reader_99 (c_X3_takeScopeWord C.2.2.2.2.2.2.2.2.2.2.2 qm22) (by decide) rfl (g_oB o21) (Nat.le_of_ble_eq_true rfl) ⟨Nat.zero_le _, Nat.zero_le _⟩ rfl ?_
          change gV X w 0 0 (gR X w (some (.int rr)) rm) 2 110 [(0, .ref x0), (1, .int x1)] [.int r23] m22
          obtain ⟨rfl, rfl⟩ := g_so h
          exact v_iret (pc := 110) C 27 rfl hr
        · replace h := g_ifF c20 h
          have zc20 := g_tne (n := 261) (by decide) c20
          by_cases c25 : x1 = 262
          · replace h := g_ifT c25 h
            refine v_lookup (pc := 1) C 1 111 rfl (by decide) (by rw [c25]) (by decide) ?_
            refine v_aload_n (pc := 111) C 28 0 rfl rfl rfl ?_
            refine v_iconst (pc := 112) C 29 5 rfl (by decide) ?_
            refine v_iconst (pc := 113) C 30 5 rfl (by decide) ?_
            obtain ⟨o26, h⟩ := g_okk h
            obtain ⟨⟨r28, m27⟩, qm27, h⟩ := g_bd h
            replace h := g_nm (y := m27) (g_nm (y := r28) h rfl) rfl
            refine v_callV (pc := 114) C 31 rfl mf_X3_takeScopeWord clX3 rfl im_X3_takeScopeWord lm_ScopeGraph_Reader_99 (c_X3_takeScopeWord C.2.2.2.2.2.2.2.2.2.2.2 qm27) (by decide) rfl (g_oB o26) (Nat.le_of_ble_eq_true rfl) ⟨Nat.zero_le _, Nat.zero_le _⟩ rfl ?_
            change gV X w 0 0 (gR X w (some (.int rr)) rm) 2 117 [(0, .ref x0), (1, .int x1)] [.int r28] m27
            obtain ⟨rfl, rfl⟩ := g_so h
            exact v_iret (pc := 117) C 32 rfl hr
          · replace h := g_ifF c25 h
            have zc25 := g_tne (n := 262) (by decide) c25
            by_cases c30 : x1 = 264
            · replace h := g_ifT c30 h
              refine v_lookup (pc := 1) C 1 75 rfl (by decide) (by rw [c30]) (by decide) ?_
              refine v_aload_n (pc := 75) C 6 0 rfl rfl rfl ?_
              obtain ⟨o31, h⟩ := g_okk h
              obtain ⟨⟨r33, m32⟩, qm32, h⟩ := g_bd h
              replace h := g_nm (y := m32) (g_nm (y := r33) h rfl) rfl
              refine v_callV (pc := 76) C 7 rfl mf_X3_takeFirstOfLong clX3 rfl im_X3_takeFirstOfLong lm_ScopeGraph_Reader_92 (c_X3_takeFirstOfLong C.2.2.2.2.2.2.2.2.2.2.2 qm32) (by decide) rfl (g_oB o31) (Nat.le_of_ble_eq_true rfl) ⟨Nat.zero_le _, Nat.zero_le _⟩ rfl ?_
              change gV X w 0 0 (gR X w (some (.int rr)) rm) 2 79 [(0, .ref x0), (1, .int x1)] [.int r33] m32
              obtain ⟨rfl, rfl⟩ := g_so h
              exact v_iret (pc := 79) C 8 rfl hr
            · replace h := g_ifF c30 h
              have zc30 := g_tne (n := 264) (by decide) c30
              by_cases c35 : x1 = 265
              · replace h := g_ifT c35 h
                refine v_lookup (pc := 1) C 1 68 rfl (by decide) (by rw [c35]) (by decide) ?_
                refine v_aload_n (pc := 68) C 2 0 rfl rfl rfl ?_
                refine v_bipush (pc := 69) C 3 12 rfl (by decide) ?_
                obtain ⟨o36, h⟩ := g_okk h
                obtain ⟨⟨r38, m37⟩, qm37, h⟩ := g_bd h
                replace h := g_nm (y := m37) (g_nm (y := r38) h rfl) rfl
                refine v_callV (pc := 71) C 4 rfl mf_X3_turnTo clX3 rfl im_X3_turnTo lm_ScopeGraph_Reader_70 (c_X3_turnTo C.2.2.2.2.2.2.2.2.2.2.2 qm37) (by decide) rfl (g_oB o36) (Nat.le_of_ble_eq_true rfl) ⟨Nat.zero_le _, Nat.zero_le _⟩ rfl ?_
                change gV X w 0 0 (gR X w (some (.int rr)) rm) 2 74 [(0, .ref x0), (1, .int x1)] [.int r38] m37
                obtain ⟨rfl, rfl⟩ := g_so h
                exact v_iret (pc := 74) C 5 rfl hr
              · replace h := g_ifF c35 h
                have zc35 := g_tne (n := 265) (by decide) c35
                refine v_lookup (off := 132) (pc := 1) C 1 133 rfl (by decide) (by simp [Op.lookupswitch.offset, zc1, zc8, zc13, zc20, zc25, zc30, zc35, zc1.symm, zc8.symm, zc13.symm, zc20.symm, zc25.symm, zc30.symm, zc35.symm]) (by decide) ?_
                refine v_iconst (pc := 133) C 42 2 rfl (by decide) ?_
                obtain ⟨rfl, rfl⟩ := g_so h
                exact v_iret (pc := 134) C 43 rfl hr
theorem c_X3_takeAtom {l : Launch} {w : gW} {rr : Int32} {rm : gM} (hJ : gJok w) {F : Nat} {x0 : Nat} {x1 : Int32} {m : gM} (h : f_X3_takeAtom w.2.2.2.2.1 F x0 x1 m = some (rr, rm)) : gMet l 3 yX3_takeAtom cX3_takeAtom 2 (some .int) w [.ref x0, .int x1] m (some (.int rr)) rm :=
  gMet.of hJ mf_X3_takeAtom dk_X3_takeAtom (Nat.le_of_ble_eq_true rfl) (fun X _ C hr => tf_X3_takeAtom (F := F) C hr h)
def f_X3_topOuter (sh : List gS) (F : Nat) (x0 : Nat) (m : gM) : Option (Int32 × gM) :=
  g_if (oB sh x0 3) (if (m.1 x0 5) ≤ 0 then (some (0, m)) else ((m.2.2 x0 2).bind (fun t3 => g_if (aB sh t3 .int ((m.1 x0 5) - (1 : Int32))) (some (m.1 t3 ((m.1 x0 5) - (1 : Int32)).toNatClampNeg, m)))))
set_option maxRecDepth 100000 in
set_option maxHeartbeats 4000000 in
theorem tf_X3_topOuter {X : gX} {w : gW} {rr : Int32} {rm : gM} (C : gC X w K_X3_topOuter 1 RX3 0) (hr : X.2.2.2.2.2.2.2.2.1.sig.returnType = (some .int)) {F : Nat} {x0 : Nat} {m : gM} (h : f_X3_topOuter w.2.2.2.2.1 F x0 m = some (rr, rm)) : gV X w 0 0 (gR X w (some (.int rr)) rm) 1 0 [(0, .ref x0)] [] m := by
  unfold f_X3_topOuter at h
  refine v_aload_n (pc := 0) C 0 0 rfl rfl rfl ?_
  obtain ⟨o1, h⟩ := g_okk h
  refine v_getI (pc := 1) C 1 rfl lf_ScopeGraph_Reader_40.get (g_oB o1) rfl ?_
  refine v_if_le (pc := 4) C 2 21 rfl (by decide) (fun c2 => ?_) (fun c2 => ?_)
  · replace h := g_ifT c2 h
    refine v_iconst (pc := 21) C 11 0 rfl (by decide) ?_
    obtain ⟨rfl, rfl⟩ := g_so h
    exact v_iret (pc := 22) C 12 rfl hr
  · replace h := g_ifF c2 h
    refine v_aload_n (pc := 7) C 3 0 rfl rfl rfl ?_
    obtain ⟨t3, qt3, h⟩ := g_bd h
    refine v_getR (pc := 8) C 4 rfl lf_ScopeGraph_Reader_22 (g_oB o1) rfl qt3 ?_
    refine v_aload_n (pc := 11) C 5 0 rfl rfl rfl ?_
    refine v_getI (pc := 12) C 6 rfl lf_ScopeGraph_Reader_40.get (g_oB o1) rfl ?_
    refine v_iconst (pc := 15) C 7 1 rfl (by decide) ?_
    refine v_isub (pc := 16) C 8 rfl ?_
    obtain ⟨b4, h⟩ := g_okk h
    refine v_iald' (pc := 17) C 9 rfl b4 ?_
    refine v_goto (pc := 18) C 10 22 rfl (by decide) ?_
    obtain ⟨rfl, rfl⟩ := g_so h
    exact v_iret (pc := 22) C 12 rfl hr
theorem c_X3_topOuter {l : Launch} {w : gW} {rr : Int32} {rm : gM} (hJ : gJok w) {F : Nat} {x0 : Nat} {m : gM} (h : f_X3_topOuter w.2.2.2.2.1 F x0 m = some (rr, rm)) : gMet l 0 yX3_topOuter cX3_topOuter 1 (some .int) w [.ref x0] m (some (.int rr)) rm :=
  gMet.of hJ mf_X3_topOuter dk_X3_topOuter (Nat.le_of_ble_eq_true rfl) (fun X _ C hr => tf_X3_topOuter (F := F) C hr h)
def f_X3_popTo (sh : List gS) (F : Nat) (x0 : Nat) (x1 : Int32) (m : gM) : Option (Int32 × gM) :=
  g_if (oB sh x0 3) ((f_X3_topOuter sh F x0 m).bind (fun q4 => nm q4.1 (fun r3 => nm q4.2 (fun m2 => nm (gsI m2 x0 7 r3) (fun m5 => nm (gsI m5 x0 5 ((m5.1 x0 5) - (1 : Int32))) (fun m6 => (f_X3_turnTo sh F x0 x1 m6).bind (fun q9 => nm q9.1 (fun r8 => nm q9.2 (fun m7 => some (r8, m7))))))))))
set_option maxRecDepth 100000 in
set_option maxHeartbeats 4000000 in
theorem tf_X3_popTo {X : gX} {w : gW} {rr : Int32} {rm : gM} (C : gC X w K_X3_popTo 2 RX3 1) (hr : X.2.2.2.2.2.2.2.2.1.sig.returnType = (some .int)) {F : Nat} {x0 : Nat} {x1 : Int32} {m : gM} (h : f_X3_popTo w.2.2.2.2.1 F x0 x1 m = some (rr, rm)) : gV X w 0 0 (gR X w (some (.int rr)) rm) 2 0 [(0, .ref x0), (1, .int x1)] [] m := by
  unfold f_X3_popTo at h
  refine v_aload_n (pc := 0) C 0 0 rfl rfl rfl ?_
  refine v_aload_n (pc := 1) C 1 0 rfl rfl rfl ?_
  obtain ⟨o1, h⟩ := g_okk h
  obtain ⟨⟨r3, m2⟩, qm2, h⟩ := g_bd h
  replace h := g_nm (y := m2) (g_nm (y := r3) h rfl) rfl
  refine v_callV (pc := 2) C 2 rfl mf_X3_topOuter clX3 rfl im_X3_topOuter lm_ScopeGraph_Reader_162 (c_X3_topOuter C.2.2.2.2.2.2.2.2.2.2.2 qm2) (by decide) rfl (g_oB o1) (Nat.le_of_ble_eq_true rfl) ⟨Nat.zero_le _, Nat.zero_le _⟩ rfl ?_
  change gV X w 0 0 (gR X w (some (.int rr)) rm) 2 5 [(0, .ref x0), (1, .int x1)] [.int r3, .ref x0] m2
  refine v_putI (pc := 5) C 3 rfl lf_ScopeGraph_Reader_47 (g_oB o1) rfl ?_
  refine v_topM (fun m5 em5 => ?_)
  replace h := g_nm h em5
  refine v_aload_n (pc := 8) C 4 0 rfl rfl rfl ?_
  refine v_dup (pc := 9) C 5 rfl rfl ?_
  refine v_getI (pc := 10) C 6 rfl lf_ScopeGraph_Reader_40.get (g_oB o1) rfl ?_
  refine v_iconst (pc := 13) C 7 1 rfl (by decide) ?_
  refine v_isub (pc := 14) C 8 rfl ?_
  refine v_putI (pc := 15) C 9 rfl lf_ScopeGraph_Reader_40 (g_oB o1) rfl ?_
  refine v_topM (fun m6 em6 => ?_)
  replace h := g_nm h em6
  refine v_aload_n (pc := 18) C 10 0 rfl rfl rfl ?_
  refine v_iload_n (pc := 19) C 11 1 rfl rfl rfl ?_
  obtain ⟨⟨r8, m7⟩, qm7, h⟩ := g_bd h
  replace h := g_nm (y := m7) (g_nm (y := r8) h rfl) rfl
  refine v_callV (pc := 20) C 12 rfl mf_X3_turnTo clX3 rfl im_X3_turnTo lm_ScopeGraph_Reader_70 (c_X3_turnTo C.2.2.2.2.2.2.2.2.2.2.2 qm7) (by decide) rfl (g_oB o1) (Nat.le_of_ble_eq_true rfl) ⟨Nat.zero_le _, Nat.zero_le _⟩ rfl ?_
  change gV X w 0 0 (gR X w (some (.int rr)) rm) 2 23 [(0, .ref x0), (1, .int x1)] [.int r8] m7
  obtain ⟨rfl, rfl⟩ := g_so h
  exact v_iret (pc := 23) C 13 rfl hr
theorem c_X3_popTo {l : Launch} {w : gW} {rr : Int32} {rm : gM} (hJ : gJok w) {F : Nat} {x0 : Nat} {x1 : Int32} {m : gM} (h : f_X3_popTo w.2.2.2.2.1 F x0 x1 m = some (rr, rm)) : gMet l 1 yX3_popTo cX3_popTo 2 (some .int) w [.ref x0, .int x1] m (some (.int rr)) rm :=
  gMet.of hJ mf_X3_popTo dk_X3_popTo (Nat.le_of_ble_eq_true rfl) (fun X _ C hr => tf_X3_popTo (F := F) C hr h)
def f_X3_closeTo (sh : List gS) (F : Nat) (x0 : Nat) (x1 : Int32) (m : gM) : Option (Int32 × gM) :=
  g_if (oB sh x0 3) (nm (gsI m x0 6 ((m.1 x0 6) - (1 : Int32))) (fun m2 => (f_X3_popTo sh F x0 x1 m2).bind (fun q5 => nm q5.1 (fun r4 => nm q5.2 (fun m3 => some (r4, m3))))))
set_option maxRecDepth 100000 in
set_option maxHeartbeats 4000000 in
theorem tf_X3_closeTo {X : gX} {w : gW} {rr : Int32} {rm : gM} (C : gC X w K_X3_closeTo 2 RX3 2) (hr : X.2.2.2.2.2.2.2.2.1.sig.returnType = (some .int)) {F : Nat} {x0 : Nat} {x1 : Int32} {m : gM} (h : f_X3_closeTo w.2.2.2.2.1 F x0 x1 m = some (rr, rm)) : gV X w 0 0 (gR X w (some (.int rr)) rm) 2 0 [(0, .ref x0), (1, .int x1)] [] m := by
  unfold f_X3_closeTo at h
  refine v_aload_n (pc := 0) C 0 0 rfl rfl rfl ?_
  refine v_dup (pc := 1) C 1 rfl rfl ?_
  obtain ⟨o1, h⟩ := g_okk h
  refine v_getI (pc := 2) C 2 rfl lf_ScopeGraph_Reader_44.get (g_oB o1) rfl ?_
  refine v_iconst (pc := 5) C 3 1 rfl (by decide) ?_
  refine v_isub (pc := 6) C 4 rfl ?_
  refine v_putI (pc := 7) C 5 rfl lf_ScopeGraph_Reader_44 (g_oB o1) rfl ?_
  refine v_topM (fun m2 em2 => ?_)
  replace h := g_nm h em2
  refine v_aload_n (pc := 10) C 6 0 rfl rfl rfl ?_
  refine v_iload_n (pc := 11) C 7 1 rfl rfl rfl ?_
  obtain ⟨⟨r4, m3⟩, qm3, h⟩ := g_bd h
  replace h := g_nm (y := m3) (g_nm (y := r4) h rfl) rfl
  refine v_callV (pc := 12) C 8 rfl mf_X3_popTo clX3 rfl im_X3_popTo lm_ScopeGraph_Reader_109 (c_X3_popTo C.2.2.2.2.2.2.2.2.2.2.2 qm3) (by decide) rfl (g_oB o1) (Nat.le_of_ble_eq_true rfl) ⟨Nat.zero_le _, Nat.zero_le _⟩ rfl ?_
  change gV X w 0 0 (gR X w (some (.int rr)) rm) 2 15 [(0, .ref x0), (1, .int x1)] [.int r4] m3
  obtain ⟨rfl, rfl⟩ := g_so h
  exact v_iret (pc := 15) C 9 rfl hr
theorem c_X3_closeTo {l : Launch} {w : gW} {rr : Int32} {rm : gM} (hJ : gJok w) {F : Nat} {x0 : Nat} {x1 : Int32} {m : gM} (h : f_X3_closeTo w.2.2.2.2.1 F x0 x1 m = some (rr, rm)) : gMet l 2 yX3_closeTo cX3_closeTo 2 (some .int) w [.ref x0, .int x1] m (some (.int rr)) rm :=
  gMet.of hJ mf_X3_closeTo dk_X3_closeTo (Nat.le_of_ble_eq_true rfl) (fun X _ C hr => tf_X3_closeTo (F := F) C hr h)
def b_X3_hasBinds_15 (sh : List gS) (F : Nat) (m : gM) : Option (Int32 × gM) :=
  some (1, m)
set_option maxRecDepth 100000 in
set_option maxHeartbeats 4000000 in
theorem tb_X3_hasBinds_15 {X : gX} {w : gW} {rr : Int32} {rm : gM} (C : gC X w K_X3_hasBinds 1 RX3 0) (hr : X.2.2.2.2.2.2.2.2.1.sig.returnType = (some .boolean)) {F : Nat} {m : gM} (h : b_X3_hasBinds_15 w.2.2.2.2.1 F m = some (rr, rm)) : gV X w 0 0 (gR X w (some (.int rr)) rm) 1 15 [] [] m := by
  unfold b_X3_hasBinds_15 at h
  refine v_iconst (pc := 15) C 9 1 rfl (by decide) ?_
  refine v_goto (pc := 16) C 10 20 rfl (by decide) ?_
  obtain ⟨rfl, rfl⟩ := g_so h
  exact v_zret (pc := 20) C 12 rfl hr (by decide)
def f_X3_hasBinds (sh : List gS) (F : Nat) (x0 : Int32) (m : gM) : Option (Int32 × gM) :=
  if x0 = (3 : Int32) then (b_X3_hasBinds_15 sh F m) else (if x0 = (4 : Int32) then (b_X3_hasBinds_15 sh F m) else (if x0 = (5 : Int32) then (b_X3_hasBinds_15 sh F m) else (some (0, m))))
set_option maxRecDepth 100000 in
set_option maxHeartbeats 4000000 in
theorem tf_X3_hasBinds {X : gX} {w : gW} {rr : Int32} {rm : gM} (C : gC X w K_X3_hasBinds 1 RX3 0) (hr : X.2.2.2.2.2.2.2.2.1.sig.returnType = (some .boolean)) {F : Nat} {x0 : Int32} {m : gM} (h : f_X3_hasBinds w.2.2.2.2.1 F x0 m = some (rr, rm)) : gV X w 0 0 (gR X w (some (.int rr)) rm) 1 0 [(0, .int x0)] [] m := by
  unfold f_X3_hasBinds at h
  refine v_iload_n (pc := 0) C 0 0 rfl rfl rfl ?_
  refine v_iconst (pc := 1) C 1 3 rfl (by decide) ?_
  refine v_icmp_eq (pc := 2) C 2 15 rfl (by decide) (fun c1 => ?_) (fun c1 => ?_)
  · replace h := g_ifT c1 h
    refine v_sub [] [] rfl ?_
    exact tb_X3_hasBinds_15 (F := F) C hr h
  · replace h := g_ifF c1 h
    refine v_iload_n (pc := 5) C 3 0 rfl rfl rfl ?_
    refine v_iconst (pc := 6) C 4 4 rfl (by decide) ?_
    refine v_icmp_eq (pc := 7) C 5 15 rfl (by decide) (fun c2 => ?_) (fun c2 => ?_)
    · replace h := g_ifT c2 h
      refine v_sub [] [] rfl ?_
      exact tb_X3_hasBinds_15 (F := F) C hr h
    · replace h := g_ifF c2 h
      refine v_iload_n (pc := 10) C 6 0 rfl rfl rfl ?_
      refine v_iconst (pc := 11) C 7 5 rfl (by decide) ?_
      refine v_icmp_ne (pc := 12) C 8 19 rfl (by decide) (fun c3 => ?_) (fun c3 => ?_)
      · replace h := g_ifF c3 h
        refine v_iconst (pc := 19) C 11 0 rfl (by decide) ?_
        obtain ⟨rfl, rfl⟩ := g_so h
        exact v_zret (pc := 20) C 12 rfl hr (by decide)
      · replace h := g_ifT c3 h
        refine v_sub [] [] rfl ?_
        exact tb_X3_hasBinds_15 (F := F) C hr h
theorem c_X3_hasBinds {l : Launch} {w : gW} {rr : Int32} {rm : gM} (hJ : gJok w) {F : Nat} {x0 : Int32} {m : gM} (h : f_X3_hasBinds w.2.2.2.2.1 F x0 m = some (rr, rm)) : gMet l 0 yX3_hasBinds cX3_hasBinds 1 (some .boolean) w [.int x0] m (some (.int rr)) rm :=
  gMet.of hJ mf_X3_hasBinds dk_X3_hasBinds (Nat.le_of_ble_eq_true rfl) (fun X _ C hr => tf_X3_hasBinds (F := F) C hr h)
