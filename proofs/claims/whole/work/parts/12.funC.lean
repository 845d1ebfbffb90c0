def f_X8_thrown (sh : List gS) (F : Nat) (x0 : Nat) (m : gM) : Option (Int32 × gM) :=
  g_if (oB sh x0 8) (some (m.1 x0 0, m))
set_option maxRecDepth 100000 in
set_option maxHeartbeats 4000000 in
theorem tf_X8_thrown {X : gX} {w : gW} {rr : Int32} {rm : gM} (C : gC X w K_X8_thrown 1 RX8 0) (hr : X.2.2.2.2.2.2.2.2.1.sig.returnType = (some .int)) {F : Nat} {x0 : Nat} {m : gM} (h : f_X8_thrown w.2.2.2.2.1 F x0 m = some (rr, rm)) : gV X w 0 0 (gR X w (some (.int rr)) rm) 1 0 [(0, .ref x0)] [] m := by
  unfold f_X8_thrown at h
  refine v_aload_n (pc := 0) C 0 0 rfl rfl rfl ?_
  obtain ⟨o1, h⟩ := g_okk h
  refine v_getI (pc := 1) C 1 rfl lf_ScopeGraphModel_154.get (g_oB o1) rfl ?_
  obtain ⟨rfl, rfl⟩ := g_so h
  exact v_iret (pc := 4) C 2 rfl hr
theorem c_X8_thrown {l : Launch} {w : gW} {rr : Int32} {rm : gM} (hJ : gJok w) {F : Nat} {x0 : Nat} {m : gM} (h : f_X8_thrown w.2.2.2.2.1 F x0 m = some (rr, rm)) : gMet l 0 yX8_thrown cX8_thrown 1 (some .int) w [.ref x0] m (some (.int rr)) rm :=
  gMet.of hJ mf_X8_thrown dk_X8_thrown (Nat.le_of_ble_eq_true rfl) (fun X _ C hr => tf_X8_thrown (F := F) C hr h)
def b_X8_fails_10 (sh : List gS) (F : Nat) (x1 : Int32) (y0 : Int32) (y1 : Nat) (m : gM) : Option (Int32 × gM) :=
  g_if (oB sh y1 8) (nm (gsI m y1 0 y0) (fun m2 => if x1 = 0 then (some (1, m2)) else (some (0, m2))))
set_option maxRecDepth 100000 in
set_option maxHeartbeats 4000000 in
theorem tb_X8_fails_10 {X : gX} {w : gW} {rr : Int32} {rm : gM} (C : gC X w K_X8_fails 2 RX8 0) (hr : X.2.2.2.2.2.2.2.2.1.sig.returnType = (some .boolean)) {F : Nat} {x1 : Int32} {y0 : Int32} {y1 : Nat} {m : gM} (h : b_X8_fails_10 w.2.2.2.2.1 F x1 y0 y1 m = some (rr, rm)) : gV X w 0 0 (gR X w (some (.int rr)) rm) 2 10 [(1, .int x1)] [.int y0, .ref y1] m := by
  unfold b_X8_fails_10 at h
  obtain ⟨o1, h⟩ := g_okk h
  refine v_putI (pc := 10) C 6 rfl lf_ScopeGraphModel_154 (g_oB o1) rfl ?_
  refine v_topM (fun m2 em2 => ?_)
  replace h := g_nm h em2
  refine v_iload_n (pc := 13) C 7 0 rfl rfl rfl ?_
  refine v_if_ne (pc := 14) C 8 21 rfl (by decide) (fun c3 => ?_) (fun c3 => ?_)
  · replace h := g_ifF c3 h
    refine v_iconst (pc := 21) C 11 0 rfl (by decide) ?_
    obtain ⟨rfl, rfl⟩ := g_so h
    exact v_zret (pc := 22) C 12 rfl hr (by decide)
  · replace h := g_ifT c3 h
    refine v_iconst (pc := 17) C 9 1 rfl (by decide) ?_
    refine v_goto (pc := 18) C 10 22 rfl (by decide) ?_
    obtain ⟨rfl, rfl⟩ := g_so h
    exact v_zret (pc := 22) C 12 rfl hr (by decide)
def f_X8_fails (sh : List gS) (F : Nat) (x0 : Nat) (x1 : Int32) (m : gM) : Option (Int32 × gM) :=
  if x1 = 0 then (b_X8_fails_10 sh F x1 1 x0 m) else (b_X8_fails_10 sh F x1 0 x0 m)
set_option maxRecDepth 100000 in
set_option maxHeartbeats 4000000 in
theorem tf_X8_fails {X : gX} {w : gW} {rr : Int32} {rm : gM} (C : gC X w K_X8_fails 2 RX8 0) (hr : X.2.2.2.2.2.2.2.2.1.sig.returnType = (some .boolean)) {F : Nat} {x0 : Nat} {x1 : Int32} {m : gM} (h : f_X8_fails w.2.2.2.2.1 F x0 x1 m = some (rr, rm)) : gV X w 0 0 (gR X w (some (.int rr)) rm) 2 0 [(0, .ref x0), (1, .int x1)] [] m := by
  unfold f_X8_fails at h
  refine v_aload_n (pc := 0) C 0 0 rfl rfl rfl ?_
  refine v_iload_n (pc := 1) C 1 1 rfl rfl rfl ?_
  refine v_if_eq (pc := 2) C 2 9 rfl (by decide) (fun c1 => ?_) (fun c1 => ?_)
  · replace h := g_ifT c1 h
    refine v_iconst (pc := 9) C 5 1 rfl (by decide) ?_
    refine v_sub [(1, .int x1)] [1] rfl ?_
    exact tb_X8_fails_10 (F := F) C hr h
  · replace h := g_ifF c1 h
    refine v_iconst (pc := 5) C 3 0 rfl (by decide) ?_
    refine v_goto (pc := 6) C 4 10 rfl (by decide) ?_
    refine v_sub [(1, .int x1)] [1] rfl ?_
    exact tb_X8_fails_10 (F := F) C hr h
theorem c_X8_fails {l : Launch} {w : gW} {rr : Int32} {rm : gM} (hJ : gJok w) {F : Nat} {x0 : Nat} {x1 : Int32} {m : gM} (h : f_X8_fails w.2.2.2.2.1 F x0 x1 m = some (rr, rm)) : gMet l 0 yX8_fails cX8_fails 2 (some .boolean) w [.ref x0, .int x1] m (some (.int rr)) rm :=
  gMet.of hJ mf_X8_fails dk_X8_fails (Nat.le_of_ble_eq_true rfl) (fun X _ C hr => tf_X8_fails (F := F) C hr h)
def b_X8_four_3 (sh : List gS) (F : Nat) (k3 : Nat → Int32 → Int32 → gM → Option (gM)) (x0 : Nat) (x1 : Int32) (x2 : Int32) (m : gM) : Option (gM) :=
  if x2 < 0 then (some m) else (g_if (oB sh x0 8) ((m.2.2 x0 1).bind (fun t3 => g_if (aB sh t3 .int (m.1 x0 2)) (nm (gsI m t3 (m.1 x0 2).toNatClampNeg ((x1 >>> (x2 &&& 31)) &&& (255 : Int32))) (fun m5 => nm (gsI m5 x0 2 ((m5.1 x0 2) + (1 : Int32))) (fun m6 => nm (x2 + Int32.ofInt (-8)) (fun v7 => k3 x0 x1 v7 m6)))))))
set_option maxRecDepth 100000 in
set_option maxHeartbeats 4000000 in
theorem tb_X8_four_3 {X : gX} {w : gW} {rm : gM} (C : gC X w K_X8_four 3 RX8 0) (hr : X.2.2.2.2.2.2.2.2.1.sig.returnType = none) {F : Nat} {k3 : Nat → Int32 → Int32 → gM → Option (gM)} (hk3 : ∀ (z0 : Nat) (z1 : Int32) (z2 : Int32) (m : gM), k3 z0 z1 z2 m = some rm → gV X w 0 0 (gR X w none rm) 3 3 [(0, .ref z0), (1, .int z1), (2, .int z2)] [] m) {x0 : Nat} {x1 : Int32} {x2 : Int32} {m : gM} (h : b_X8_four_3 w.2.2.2.2.1 F k3 x0 x1 x2 m = some rm) : gV X w 0 0 (gR X w none rm) 3 3 [(0, .ref x0), (1, .int x1), (2, .int x2)] [] m := by
  unfold b_X8_four_3 at h
  refine v_iload_n (pc := 3) C 2 2 rfl rfl rfl ?_
  refine v_if_lt (pc := 4) C 3 39 rfl (by decide) (fun c1 => ?_) (fun c1 => ?_)
  · replace h := g_ifT c1 h
    cases g_s1' h
    exact v_vret (pc := 39) C 22 rfl hr
  · replace h := g_ifF c1 h
    refine v_aload_n (pc := 7) C 4 0 rfl rfl rfl ?_
    obtain ⟨o2, h⟩ := g_okk h
    obtain ⟨t3, qt3, h⟩ := g_bd h
    refine v_getR (pc := 8) C 5 rfl lf_ScopeGraphModel_7 (g_oB o2) rfl qt3 ?_
    refine v_aload_n (pc := 11) C 6 0 rfl rfl rfl ?_
    refine v_getI (pc := 12) C 7 rfl lf_ScopeGraphModel_157.get (g_oB o2) rfl ?_
    refine v_iload_n (pc := 15) C 8 1 rfl rfl rfl ?_
    refine v_iload_n (pc := 16) C 9 2 rfl rfl rfl ?_
    refine v_ishr (pc := 17) C 10 rfl ?_
    refine v_sipush (pc := 18) C 11 255 rfl (by decide) ?_
    refine v_iand (pc := 21) C 12 rfl ?_
    obtain ⟨b4, h⟩ := g_okk h
    refine v_iast' (pc := 22) C 13 rfl b4 ?_
    refine v_topM (fun m5 em5 => ?_)
    replace h := g_nm h em5
    refine v_aload_n (pc := 23) C 14 0 rfl rfl rfl ?_
    refine v_dup (pc := 24) C 15 rfl rfl ?_
    refine v_getI (pc := 25) C 16 rfl lf_ScopeGraphModel_157.get (g_oB o2) rfl ?_
    refine v_iconst (pc := 28) C 17 1 rfl (by decide) ?_
    refine v_iadd (pc := 29) C 18 rfl ?_
    refine v_putI (pc := 30) C 19 rfl lf_ScopeGraphModel_157 (g_oB o2) rfl ?_
    refine v_topM (fun m6 em6 => ?_)
    replace h := g_nm h em6
    refine v_iincN (pc := 33) C 20 2 (fun v7 => [(2, .int v7), (0, .ref x0), (1, .int x1)]) rfl rfl (by decide) (fun _ => rfl) (fun v7 ev7 => ?_)
    replace h := g_nm h ev7
    refine v_goto (pc := 36) C 21 3 rfl (by decide) ?_
    refine v_sub [(0, .ref x0), (1, .int x1), (2, .int v7)] [1, 2, 0] rfl ?_
    exact hk3 _ _ _ _ h
def l_X8_four_3 (sh : List gS) (F : Nat) : Nat → Nat → Int32 → Int32 → gM → Option (gM)
  | 0 => fun _ _ _ _ => none
  | n + 1 => fun x0 x1 x2 m => b_X8_four_3 sh F (l_X8_four_3 sh F n) x0 x1 x2 m
theorem tl_X8_four_3 {X : gX} {w : gW} {rm : gM} (C : gC X w K_X8_four 3 RX8 0) (hr : X.2.2.2.2.2.2.2.2.1.sig.returnType = none) {F : Nat} : ∀ (n : Nat) (x0 : Nat) (x1 : Int32) (x2 : Int32) (m : gM), l_X8_four_3 w.2.2.2.2.1 F n x0 x1 x2 m = some rm → gV X w 0 0 (gR X w none rm) 3 3 [(0, .ref x0), (1, .int x1), (2, .int x2)] [] m := by
  intro n
  induction n with
  | zero => intro x0 x1 x2 m h; cases h
  | succ n ih => intro x0 x1 x2 m h; exact tb_X8_four_3 (F := F) C hr ih h
def f_X8_four (sh : List gS) (F : Nat) (x0 : Nat) (x1 : Int32) (m : gM) : Option (gM) :=
  l_X8_four_3 sh F F x0 x1 24 m
set_option maxRecDepth 100000 in
set_option maxHeartbeats 4000000 in
theorem tf_X8_four {X : gX} {w : gW} {rm : gM} (C : gC X w K_X8_four 3 RX8 0) (hr : X.2.2.2.2.2.2.2.2.1.sig.returnType = none) {F : Nat} {x0 : Nat} {x1 : Int32} {m : gM} (h : f_X8_four w.2.2.2.2.1 F x0 x1 m = some rm) : gV X w 0 0 (gR X w none rm) 3 0 [(0, .ref x0), (1, .int x1)] [] m := by
  unfold f_X8_four at h
  refine v_bipush (pc := 0) C 0 24 rfl (by decide) ?_
  refine v_istore_n (pc := 2) (lv' := [(2, .int 24), (0, .ref x0), (1, .int x1)]) C 1 rfl rfl (by decide) rfl ?_
  refine v_sub [(0, .ref x0), (1, .int x1), (2, .int 24)] [1, 2, 0] rfl ?_
  exact tl_X8_four_3 (F := F) C hr _ _ _ _ _ h
theorem c_X8_four {l : Launch} {w : gW} {rm : gM} (hJ : gJok w) {F : Nat} {x0 : Nat} {x1 : Int32} {m : gM} (h : f_X8_four w.2.2.2.2.1 F x0 x1 m = some rm) : gMet l 0 yX8_four cX8_four 3 none w [.ref x0, .int x1] m none rm :=
  gMet.of hJ mf_X8_four dk_X8_four (Nat.le_of_ble_eq_true rfl) (fun X _ C hr => tf_X8_four (F := F) C hr h)
def b_X8_feed_19 (sh : List gS) (F : Nat) (x0 : Nat) (x1 : Int32) (x2 : Int32) (x3 : Int32) (x4 : Int32) (x5 : Int32) (y0 : Int32) (y1 : Nat) (m : gM) : Option (Int32 × gM) :=
  g_if (oB sh y1 8) ((f_X8_fails sh F y1 y0 m).bind (fun q4 => nm q4.1 (fun r3 => nm q4.2 (fun m2 => if r3 = 0 then (g_if (oB sh x0 8) ((f_X8_four sh F x0 x1 m2).bind (fun m7 => (f_X8_four sh F x0 x2 m7).bind (fun m9 => (f_X8_four sh F x0 x3 m9).bind (fun m11 => (f_X8_four sh F x0 x4 m11).bind (fun m13 => (f_X8_four sh F x0 x5 m13).bind (fun m15 => some (m15.1 x0 2, m15)))))))) else (some (0, m2))))))
set_option maxRecDepth 100000 in
set_option maxHeartbeats 4000000 in
theorem tb_X8_feed_19 {X : gX} {w : gW} {rr : Int32} {rm : gM} (C : gC X w K_X8_feed 6 RX8 1) (hr : X.2.2.2.2.2.2.2.2.1.sig.returnType = (some .int)) {F : Nat} {x0 : Nat} {x1 : Int32} {x2 : Int32} {x3 : Int32} {x4 : Int32} {x5 : Int32} {y0 : Int32} {y1 : Nat} {m : gM} (h : b_X8_feed_19 w.2.2.2.2.1 F x0 x1 x2 x3 x4 x5 y0 y1 m = some (rr, rm)) : gV X w 0 0 (gR X w (some (.int rr)) rm) 6 19 [(0, .ref x0), (1, .int x1), (2, .int x2), (3, .int x3), (4, .int x4), (5, .int x5)] [.int y0, .ref y1] m := by
  unfold b_X8_feed_19 at h
  obtain ⟨o1, h⟩ := g_okk h
  obtain ⟨⟨r3, m2⟩, qm2, h⟩ := g_bd h
  replace h := g_nm (y := m2) (g_nm (y := r3) h rfl) rfl
  refine v_callV (pc := 19) C 10 rfl mf_X8_fails clX8 rfl im_X8_fails lm_ScopeGraphModel_160 (c_X8_fails C.2.2.2.2.2.2.2.2.2.2.2 qm2) (by decide) rfl (g_oB o1) (Nat.le_of_ble_eq_true rfl) ⟨Nat.zero_le _, Nat.zero_le _⟩ rfl ?_
  change gV X w 0 0 (gR X w (some (.int rr)) rm) 6 22 [(0, .ref x0), (1, .int x1), (2, .int x2), (3, .int x3), (4, .int x4), (5, .int x5)] [.int r3] m2
  refine v_if_eq (pc := 22) C 11 27 rfl (by decide) (fun c5 => ?_) (fun c5 => ?_)
  · replace h := g_ifT c5 h
    refine v_aload_n (pc := 27) C 14 0 rfl rfl rfl ?_
    refine v_iload_n (pc := 28) C 15 1 rfl rfl rfl ?_
    obtain ⟨o6, h⟩ := g_okk h
    obtain ⟨m7, qm7, h⟩ := g_bd h
    refine v_callV (pc := 29) C 16 rfl mf_X8_four clX8 rfl im_X8_four lm_ScopeGraphModel_164 (c_X8_four C.2.2.2.2.2.2.2.2.2.2.2 qm7) (by decide) rfl (g_oB o6) (Nat.le_of_ble_eq_true rfl) ⟨Nat.zero_le _, Nat.zero_le _⟩ rfl ?_
    change gV X w 0 0 (gR X w (some (.int rr)) rm) 6 32 [(0, .ref x0), (1, .int x1), (2, .int x2), (3, .int x3), (4, .int x4), (5, .int x5)] [] m7
    refine v_aload_n (pc := 32) C 17 0 rfl rfl rfl ?_
    refine v_iload_n (pc := 33) C 18 2 rfl rfl rfl ?_
    obtain ⟨m9, qm9, h⟩ := g_bd h
    refine v_callV (pc := 34) C 19 rfl mf_X8_four clX8 rfl im_X8_four lm_ScopeGraphModel_164 (c_X8_four C.2.2.2.2.2.2.2.2.2.2.2 qm9) (by decide) rfl (g_oB o6) (Nat.le_of_ble_eq_true rfl) ⟨Nat.zero_le _, Nat.zero_le _⟩ rfl ?_
    change gV X w 0 0 (gR X w (some (.int rr)) rm) 6 37 [(0, .ref x0), (1, .int x1), (2, .int x2), (3, .int x3), (4, .int x4), (5, .int x5)] [] m9
    refine v_aload_n (pc := 37) C 20 0 rfl rfl rfl ?_
    refine v_iload_n (pc := 38) C 21 3 rfl rfl rfl ?_
    obtain ⟨m11, qm11, h⟩ := g_bd h
    refine v_callV (pc := 39) C 22 rfl mf_X8_four clX8 rfl im_X8_four lm_ScopeGraphModel_164 (c_X8_four C.2.2.2.2.2.2.2.2.2.2.2 qm11) (by decide) rfl (g_oB o6) (Nat.le_of_ble_eq_true rfl) ⟨Nat.zero_le _, Nat.zero_le _⟩ rfl ?_
    change gV X w 0 0 (gR X w (some (.int rr)) rm) 6 42 [(0, .ref x0), (1, .int x1), (2, .int x2), (3, .int x3), (4, .int x4), (5, .int x5)] [] m11
    refine v_aload_n (pc := 42) C 23 0 rfl rfl rfl ?_
    refine v_iload (pc := 43) C 24 4 rfl rfl ?_
    obtain ⟨m13, qm13, h⟩ := g_bd h
    refine v_callV (pc := 45) C 25 rfl mf_X8_four clX8 rfl im_X8_four lm_ScopeGraphModel_164 (c_X8_four C.2.2.2.2.2.2.2.2.2.2.2 qm13) (by decide) rfl (g_oB o6) (Nat.le_of_ble_eq_true rfl) ⟨Nat.zero_le _, Nat.zero_le _⟩ rfl ?_
    change gV X w 0 0 (gR X w (some (.int rr)) rm) 6 48 [(0, .ref x0), (1, .int x1), (2, .int x2), (3, .int x3), (4, .int x4), (5, .int x5)] [] m13
    refine v_aload_n (pc := 48) C 26 0 rfl rfl rfl ?_
    refine v_iload (pc := 49) C 27 5 rfl rfl ?_
    obtain ⟨m15, qm15, h⟩ := g_bd h
    refine v_callV (pc := 51) C 28 rfl mf_X8_four clX8 rfl im_X8_four lm_ScopeGraphModel_164 (c_X8_four C.2.2.2.2.2.2.2.2.2.2.2 qm15) (by decide) rfl (g_oB o6) (Nat.le_of_ble_eq_true rfl) ⟨Nat.zero_le _, Nat.zero_le _⟩ rfl ?_
    change gV X w 0 0 (gR X w (some (.int rr)) rm) 6 54 [(0, .ref x0), (1, .int x1), (2, .int x2), (3, .int x3), (4, .int x4), (5, .int x5)] [] m15
    refine v_aload_n (pc := 54) C 29 0 rfl rfl rfl ?_
    refine v_getI (pc := 55) C 30 rfl lf_ScopeGraphModel_157.get (g_oB o6) rfl ?_
    obtain ⟨rfl, rfl⟩ := g_so h
    exact v_iret (pc := 58) C 31 rfl hr
  · replace h := g_ifF c5 h
    refine v_iconst (pc := 25) C 12 0 rfl (by decide) ?_
    obtain ⟨rfl, rfl⟩ := g_so h
    exact v_iret (pc := 26) C 13 rfl hr
def f_X8_feed (sh : List gS) (F : Nat) (x0 : Nat) (x1 : Int32) (x2 : Int32) (x3 : Int32) (x4 : Int32) (x5 : Int32) (m : gM) : Option (Int32 × gM) :=
  g_if (oB sh x0 8) (if (4000 : Int32) < ((m.1 x0 2) + (20 : Int32)) then (b_X8_feed_19 sh F x0 x1 x2 x3 x4 x5 0 x0 m) else (b_X8_feed_19 sh F x0 x1 x2 x3 x4 x5 1 x0 m))
set_option maxRecDepth 100000 in
set_option maxHeartbeats 4000000 in
theorem tf_X8_feed {X : gX} {w : gW} {rr : Int32} {rm : gM} (C : gC X w K_X8_feed 6 RX8 1) (hr : X.2.2.2.2.2.2.2.2.1.sig.returnType = (some .int)) {F : Nat} {x0 : Nat} {x1 : Int32} {x2 : Int32} {x3 : Int32} {x4 : Int32} {x5 : Int32} {m : gM} (h : f_X8_feed w.2.2.2.2.1 F x0 x1 x2 x3 x4 x5 m = some (rr, rm)) : gV X w 0 0 (gR X w (some (.int rr)) rm) 6 0 [(0, .ref x0), (1, .int x1), (2, .int x2), (3, .int x3), (4, .int x4), (5, .int x5)] [] m := by
  unfold f_X8_feed at h
  refine v_aload_n (pc := 0) C 0 0 rfl rfl rfl ?_
  refine v_aload_n (pc := 1) C 1 0 rfl rfl rfl ?_
  obtain ⟨o1, h⟩ := g_okk h
  refine v_getI (pc := 2) C 2 rfl lf_ScopeGraphModel_157.get (g_oB o1) rfl ?_
  refine v_bipush (pc := 5) C 3 20 rfl (by decide) ?_
  refine v_iadd (pc := 7) C 4 rfl ?_
  refine v_sipush (pc := 8) C 5 4000 rfl (by decide) ?_
  refine v_icmp_gt (pc := 11) C 6 18 rfl (by decide) (fun c2 => ?_) (fun c2 => ?_)
  · replace h := g_ifT c2 h
    refine v_iconst (pc := 18) C 9 0 rfl (by decide) ?_
    refine v_sub [(0, .ref x0), (1, .int x1), (2, .int x2), (3, .int x3), (4, .int x4), (5, .int x5)] [0, 1, 2, 3, 4, 5] rfl ?_
    exact tb_X8_feed_19 (F := F) C hr h
  · replace h := g_ifF c2 h
    refine v_iconst (pc := 14) C 7 1 rfl (by decide) ?_
    refine v_goto (pc := 15) C 8 19 rfl (by decide) ?_
    refine v_sub [(0, .ref x0), (1, .int x1), (2, .int x2), (3, .int x3), (4, .int x4), (5, .int x5)] [0, 1, 2, 3, 4, 5] rfl ?_
    exact tb_X8_feed_19 (F := F) C hr h
theorem c_X8_feed {l : Launch} {w : gW} {rr : Int32} {rm : gM} (hJ : gJok w) {F : Nat} {x0 : Nat} {x1 : Int32} {x2 : Int32} {x3 : Int32} {x4 : Int32} {x5 : Int32} {m : gM} (h : f_X8_feed w.2.2.2.2.1 F x0 x1 x2 x3 x4 x5 m = some (rr, rm)) : gMet l 1 yX8_feed cX8_feed 6 (some .int) w [.ref x0, .int x1, .int x2, .int x3, .int x4, .int x5] m (some (.int rr)) rm :=
  gMet.of hJ mf_X8_feed dk_X8_feed (Nat.le_of_ble_eq_true rfl) (fun X _ C hr => tf_X8_feed (F := F) C hr h)
def b_X8_end_18 (sh : List gS) (F : Nat) (x0 : Nat) (x1 : Int32) (y0 : Int32) (y1 : Nat) (m : gM) : Option (gM) :=
  g_if (oB sh y1 8) ((f_X8_fails sh F y1 y0 m).bind (fun q4 => nm q4.1 (fun r3 => nm q4.2 (fun m2 => if r3 = 0 then (g_if (oB sh x0 8) (nm (gsI m2 x0 2 x1) (fun m7 => some m7))) else (some m2)))))
set_option maxRecDepth 100000 in
set_option maxHeartbeats 4000000 in
theorem tb_X8_end_18 {X : gX} {w : gW} {rm : gM} (C : gC X w K_X8_end 2 RX8 1) (hr : X.2.2.2.2.2.2.2.2.1.sig.returnType = none) {F : Nat} {x0 : Nat} {x1 : Int32} {y0 : Int32} {y1 : Nat} {m : gM} (h : b_X8_end_18 w.2.2.2.2.1 F x0 x1 y0 y1 m = some rm) : gV X w 0 0 (gR X w none rm) 2 18 [(0, .ref x0), (1, .int x1)] [.int y0, .ref y1] m := by
  unfold b_X8_end_18 at h
  obtain ⟨o1, h⟩ := g_okk h
  obtain ⟨⟨r3, m2⟩, qm2, h⟩ := g_bd h
  replace h := g_nm (y := m2) (g_nm (y := r3) h rfl) rfl
  refine v_callV (pc := 18) C 10 rfl mf_X8_fails clX8 rfl im_X8_fails lm_ScopeGraphModel_160 (c_X8_fails C.2.2.2.2.2.2.2.2.2.2.2 qm2) (by decide) rfl (g_oB o1) (Nat.le_of_ble_eq_true rfl) ⟨Nat.zero_le _, Nat.zero_le _⟩ rfl ?_
  change gV X w 0 0 (gR X w none rm) 2 21 [(0, .ref x0), (1, .int x1)] [.int r3] m2
  refine v_if_ne (pc := 21) C 11 29 rfl (by decide) (fun c5 => ?_) (fun c5 => ?_)
  · replace h := g_ifF c5 h
    cases g_s1' h
    exact v_vret (pc := 29) C 15 rfl hr
  · replace h := g_ifT c5 h
    refine v_aload_n (pc := 24) C 12 0 rfl rfl rfl ?_
    refine v_iload_n (pc := 25) C 13 1 rfl rfl rfl ?_
    obtain ⟨o6, h⟩ := g_okk h
    refine v_putI (pc := 26) C 14 rfl lf_ScopeGraphModel_157 (g_oB o6) rfl ?_
    refine v_topM (fun m7 em7 => ?_)
    replace h := g_nm h em7
    cases g_s1' h
    exact v_vret (pc := 29) C 15 rfl hr
def b_X8_end_17 (sh : List gS) (F : Nat) (x0 : Nat) (x1 : Int32) (y0 : Nat) (m : gM) : Option (gM) :=
  b_X8_end_18 sh F x0 x1 0 y0 m
set_option maxRecDepth 100000 in
set_option maxHeartbeats 4000000 in
theorem tb_X8_end_17 {X : gX} {w : gW} {rm : gM} (C : gC X w K_X8_end 2 RX8 1) (hr : X.2.2.2.2.2.2.2.2.1.sig.returnType = none) {F : Nat} {x0 : Nat} {x1 : Int32} {y0 : Nat} {m : gM} (h : b_X8_end_17 w.2.2.2.2.1 F x0 x1 y0 m = some rm) : gV X w 0 0 (gR X w none rm) 2 17 [(0, .ref x0), (1, .int x1)] [.ref y0] m := by
  unfold b_X8_end_17 at h
  refine v_iconst (pc := 17) C 9 0 rfl (by decide) ?_
  refine v_sub [(0, .ref x0), (1, .int x1)] [0, 1] rfl ?_
  exact tb_X8_end_18 (F := F) C hr h
def f_X8_end (sh : List gS) (F : Nat) (x0 : Nat) (x1 : Int32) (m : gM) : Option (gM) :=
  if x1 < 0 then (b_X8_end_17 sh F x0 x1 x0 m) else (g_if (oB sh x0 8) (if (m.1 x0 2) < x1 then (b_X8_end_17 sh F x0 x1 x0 m) else (b_X8_end_18 sh F x0 x1 1 x0 m)))
set_option maxRecDepth 100000 in
set_option maxHeartbeats 4000000 in
theorem tf_X8_end {X : gX} {w : gW} {rm : gM} (C : gC X w K_X8_end 2 RX8 1) (hr : X.2.2.2.2.2.2.2.2.1.sig.returnType = none) {F : Nat} {x0 : Nat} {x1 : Int32} {m : gM} (h : f_X8_end w.2.2.2.2.1 F x0 x1 m = some rm) : gV X w 0 0 (gR X w none rm) 2 0 [(0, .ref x0), (1, .int x1)] [] m := by
  unfold f_X8_end at h
  refine v_aload_n (pc := 0) C 0 0 rfl rfl rfl ?_
  refine v_iload_n (pc := 1) C 1 1 rfl rfl rfl ?_
  refine v_if_lt (pc := 2) C 2 17 rfl (by decide) (fun c1 => ?_) (fun c1 => ?_)
  · replace h := g_ifT c1 h
    refine v_sub [(0, .ref x0), (1, .int x1)] [0, 1] rfl ?_
    exact tb_X8_end_17 (F := F) C hr h
  · replace h := g_ifF c1 h
    refine v_iload_n (pc := 5) C 3 1 rfl rfl rfl ?_
    refine v_aload_n (pc := 6) C 4 0 rfl rfl rfl ?_
    obtain ⟨o2, h⟩ := g_okk h
    refine v_getI (pc := 7) C 5 rfl lf_ScopeGraphModel_157.get (g_oB o2) rfl ?_
    refine v_icmp_gt (pc := 10) C 6 17 rfl (by decide) (fun c3 => ?_) (fun c3 => ?_)
    · replace h := g_ifT c3 h
      refine v_sub [(0, .ref x0), (1, .int x1)] [0, 1] rfl ?_
      exact tb_X8_end_17 (F := F) C hr h
    · replace h := g_ifF c3 h
      refine v_iconst (pc := 13) C 7 1 rfl (by decide) ?_
      refine v_goto (pc := 14) C 8 18 rfl (by decide) ?_
      refine v_sub [(0, .ref x0), (1, .int x1)] [0, 1] rfl ?_
      exact tb_X8_end_18 (F := F) C hr h
theorem c_X8_end {l : Launch} {w : gW} {rm : gM} (hJ : gJok w) {F : Nat} {x0 : Nat} {x1 : Int32} {m : gM} (h : f_X8_end w.2.2.2.2.1 F x0 x1 m = some rm) : gMet l 1 yX8_end cX8_end 2 none w [.ref x0, .int x1] m none rm :=
  gMet.of hJ mf_X8_end dk_X8_end (Nat.le_of_ble_eq_true rfl) (fun X _ C hr => tf_X8_end (F := F) C hr h)
def f_X8_blame (sh : List gS) (F : Nat) (x0 : Nat) (x1 : Int32) (x2 : Int32) (m : gM) : Option (Int32 × gM) :=
  g_if (oB sh x0 8) (if (m.1 x0 7) = 0 then (nm (gsI m x0 7 x1) (fun m3 => nm (gsI m3 x0 42 x2) (fun m4 => some (0, m4)))) else (some (0, m)))
set_option maxRecDepth 100000 in
set_option maxHeartbeats 4000000 in
theorem tf_X8_blame {X : gX} {w : gW} {rr : Int32} {rm : gM} (C : gC X w K_X8_blame 3 RX8 0) (hr : X.2.2.2.2.2.2.2.2.1.sig.returnType = (some .boolean)) {F : Nat} {x0 : Nat} {x1 : Int32} {x2 : Int32} {m : gM} (h : f_X8_blame w.2.2.2.2.1 F x0 x1 x2 m = some (rr, rm)) : gV X w 0 0 (gR X w (some (.int rr)) rm) 3 0 [(0, .ref x0), (1, .int x1), (2, .int x2)] [] m := by
  unfold f_X8_blame at h
  refine v_aload_n (pc := 0) C 0 0 rfl rfl rfl ?_
  obtain ⟨o1, h⟩ := g_okk h
  refine v_getI (pc := 1) C 1 rfl lf_ScopeGraphModel_168.get (g_oB o1) rfl ?_
  refine v_if_ne (pc := 4) C 2 17 rfl (by decide) (fun c2 => ?_) (fun c2 => ?_)
  · replace h := g_ifF c2 h
    refine v_iconst (pc := 17) C 9 0 rfl (by decide) ?_
    obtain ⟨rfl, rfl⟩ := g_so h
    exact v_zret (pc := 18) C 10 rfl hr (by decide)
  · replace h := g_ifT c2 h
    refine v_aload_n (pc := 7) C 3 0 rfl rfl rfl ?_
    refine v_iload_n (pc := 8) C 4 1 rfl rfl rfl ?_
    refine v_putI (pc := 9) C 5 rfl lf_ScopeGraphModel_168 (g_oB o1) rfl ?_
    refine v_topM (fun m3 em3 => ?_)
    replace h := g_nm h em3
    refine v_aload_n (pc := 12) C 6 0 rfl rfl rfl ?_
    refine v_iload_n (pc := 13) C 7 2 rfl rfl rfl ?_
    refine v_putI (pc := 14) C 8 rfl lf_ScopeGraphModel_171 (g_oB o1) rfl ?_
    refine v_topM (fun m4 em4 => ?_)
    replace h := g_nm h em4
    refine v_iconst (pc := 17) C 9 0 rfl (by decide) ?_
    obtain ⟨rfl, rfl⟩ := g_so h
    exact v_zret (pc := 18) C 10 rfl hr (by decide)
theorem c_X8_blame {l : Launch} {w : gW} {rr : Int32} {rm : gM} (hJ : gJok w) {F : Nat} {x0 : Nat} {x1 : Int32} {x2 : Int32} {m : gM} (h : f_X8_blame w.2.2.2.2.1 F x0 x1 x2 m = some (rr, rm)) : gMet l 0 yX8_blame cX8_blame 3 (some .boolean) w [.ref x0, .int x1, .int x2] m (some (.int rr)) rm :=
  gMet.of hJ mf_X8_blame dk_X8_blame (Nat.le_of_ble_eq_true rfl) (fun X _ C hr => tf_X8_blame (F := F) C hr h)
def b_X8_isLetter_30 (sh : List gS) (F : Nat) (m : gM) : Option (Int32 × gM) :=
  some (1, m)
set_option maxRecDepth 100000 in
set_option maxHeartbeats 4000000 in
theorem tb_X8_isLetter_30 {X : gX} {w : gW} {rr : Int32} {rm : gM} (C : gC X w K_X8_isLetter 1 RX8 0) (hr : X.2.2.2.2.2.2.2.2.1.sig.returnType = (some .boolean)) {F : Nat} {m : gM} (h : b_X8_isLetter_30 w.2.2.2.2.1 F m = some (rr, rm)) : gV X w 0 0 (gR X w (some (.int rr)) rm) 1 30 [] [] m := by
  unfold b_X8_isLetter_30 at h
  refine v_iconst (pc := 30) C 15 1 rfl (by decide) ?_
  refine v_goto (pc := 31) C 16 35 rfl (by decide) ?_
  obtain ⟨rfl, rfl⟩ := g_so h
  exact v_zret (pc := 35) C 18 rfl hr (by decide)
def b_X8_isLetter_24 (sh : List gS) (F : Nat) (x0 : Int32) (m : gM) : Option (Int32 × gM) :=
  if x0 = (95 : Int32) then (b_X8_isLetter_30 sh F m) else (some (0, m))
set_option maxRecDepth 100000 in
set_option maxHeartbeats 4000000 in
theorem tb_X8_isLetter_24 {X : gX} {w : gW} {rr : Int32} {rm : gM} (C : gC X w K_X8_isLetter 1 RX8 0) (hr : X.2.2.2.2.2.2.2.2.1.sig.returnType = (some .boolean)) {F : Nat} {x0 : Int32} {m : gM} (h : b_X8_isLetter_24 w.2.2.2.2.1 F x0 m = some (rr, rm)) : gV X w 0 0 (gR X w (some (.int rr)) rm) 1 24 [(0, .int x0)] [] m := by
  unfold b_X8_isLetter_24 at h
  refine v_iload_n (pc := 24) C 12 0 rfl rfl rfl ?_
  refine v_bipush (pc := 25) C 13 95 rfl (by decide) ?_
  refine v_icmp_ne (pc := 27) C 14 34 rfl (by decide) (fun c1 => ?_) (fun c1 => ?_)
  · replace h := g_ifF c1 h
    refine v_iconst (pc := 34) C 17 0 rfl (by decide) ?_
    obtain ⟨rfl, rfl⟩ := g_so h
    exact v_zret (pc := 35) C 18 rfl hr (by decide)
  · replace h := g_ifT c1 h
    refine v_sub [] [] rfl ?_
    exact tb_X8_isLetter_30 (F := F) C hr h
def b_X8_isLetter_12 (sh : List gS) (F : Nat) (x0 : Int32) (m : gM) : Option (Int32 × gM) :=
  if x0 < (65 : Int32) then (b_X8_isLetter_24 sh F x0 m) else (if x0 ≤ (90 : Int32) then (b_X8_isLetter_30 sh F m) else (b_X8_isLetter_24 sh F x0 m))
set_option maxRecDepth 100000 in
set_option maxHeartbeats 4000000 in
theorem tb_X8_isLetter_12 {X : gX} {w : gW} {rr : Int32} {rm : gM} (C : gC X w K_X8_isLetter 1 RX8 0) (hr : X.2.2.2.2.2.2.2.2.1.sig.returnType = (some .boolean)) {F : Nat} {x0 : Int32} {m : gM} (h : b_X8_isLetter_12 w.2.2.2.2.1 F x0 m = some (rr, rm)) : gV X w 0 0 (gR X w (some (.int rr)) rm) 1 12 [(0, .int x0)] [] m := by
  unfold b_X8_isLetter_12 at h
  refine v_iload_n (pc := 12) C 6 0 rfl rfl rfl ?_
  refine v_bipush (pc := 13) C 7 65 rfl (by decide) ?_
  refine v_icmp_lt (pc := 15) C 8 24 rfl (by decide) (fun c1 => ?_) (fun c1 => ?_)
  · replace h := g_ifT c1 h
    refine v_sub [(0, .int x0)] [0] rfl ?_
    exact tb_X8_isLetter_24 (F := F) C hr h
  · replace h := g_ifF c1 h
    refine v_iload_n (pc := 18) C 9 0 rfl rfl rfl ?_
    refine v_bipush (pc := 19) C 10 90 rfl (by decide) ?_
    refine v_icmp_le (pc := 21) C 11 30 rfl (by decide) (fun c2 => ?_) (fun c2 => ?_)
    · replace h := g_ifT c2 h
      refine v_sub [] [] rfl ?_
      exact tb_X8_isLetter_30 (F := F) C hr h
    · replace h := g_ifF c2 h
      refine v_sub [(0, .int x0)] [0] rfl ?_
      exact tb_X8_isLetter_24 (F := F) C hr h
def f_X8_isLetter (sh : List gS) (F : Nat) (x0 : Int32) (m : gM) : Option (Int32 × gM) :=
  if x0 < (97 : Int32) then (b_X8_isLetter_12 sh F x0 m) else (if x0 ≤ (122 : Int32) then (b_X8_isLetter_30 sh F m) else (b_X8_isLetter_12 sh F x0 m))
set_option maxRecDepth 100000 in
set_option maxHeartbeats 4000000 in
theorem tf_X8_isLetter {X : gX} {w : gW} {rr : Int32} {rm : gM} (C : gC X w K_X8_isLetter 1 RX8 0) (hr : X.2.2.2.2.2.2.2.2.1.sig.returnType = (some .boolean)) {F : Nat} {x0 : Int32} {m : gM} (h : f_X8_isLetter w.2.2.2.2.1 F x0 m = some (rr, rm)) : gV X w 0 0 (gR X w (some (.int rr)) rm) 1 0 [(0, .int x0)] [] m := by
  unfold f_X8_isLetter at h
  refine v_iload_n (pc := 0) C 0 0 rfl rfl rfl ?_
  refine v_bipush (pc := 1) C 1 97 rfl (by decide) ?_
  refine v_icmp_lt (pc := 3) C 2 12 rfl (by decide) (fun c1 => ?_) (fun c1 => ?_)
  · replace h := g_ifT c1 h
    refine v_sub [(0, .int x0)] [0] rfl ?_
    exact tb_X8_isLetter_12 (F := F) C hr h
  · replace h := g_ifF c1 h
    refine v_iload_n (pc := 6) C 3 0 rfl rfl rfl ?_
    refine v_bipush (pc := 7) C 4 122 rfl (by decide) ?_
    refine v_icmp_le (pc := 9) C 5 30 rfl (by decide) (fun c2 => ?_) (fun c2 => ?_)
    · replace h := g_ifT c2 h
      refine v_sub [] [] rfl ?_
      exact tb_X8_isLetter_30 (F := F) C hr h
    · replace h := g_ifF c2 h
      refine v_sub [(0, .int x0)] [0] rfl ?_
      exact tb_X8_isLetter_12 (F := F) C hr h
theorem c_X8_isLetter {l : Launch} {w : gW} {rr : Int32} {rm : gM} (hJ : gJok w) {F : Nat} {x0 : Int32} {m : gM} (h : f_X8_isLetter w.2.2.2.2.1 F x0 m = some (rr, rm)) : gMet l 0 yX8_isLetter cX8_isLetter 1 (some .boolean) w [.int x0] m (some (.int rr)) rm :=
  gMet.of hJ mf_X8_isLetter dk_X8_isLetter (Nat.le_of_ble_eq_true rfl) (fun X _ C hr => tf_X8_isLetter (F := F) C hr h)
def f_X8_isDigit (sh : List gS) (F : Nat) (x0 : Int32) (m : gM) : Option (Int32 × gM) :=
  if x0 < (48 : Int32) then (some (0, m)) else (if (57 : Int32) < x0 then (some (0, m)) else (some (1, m)))
set_option maxRecDepth 100000 in
set_option maxHeartbeats 4000000 in
theorem tf_X8_isDigit {X : gX} {w : gW} {rr : Int32} {rm : gM} (C : gC X w K_X8_isDigit 1 RX8 0) (hr : X.2.2.2.2.2.2.2.2.1.sig.returnType = (some .boolean)) {F : Nat} {x0 : Int32} {m : gM} (h : f_X8_isDigit w.2.2.2.2.1 F x0 m = some (rr, rm)) : gV X w 0 0 (gR X w (some (.int rr)) rm) 1 0 [(0, .int x0)] [] m := by
  unfold f_X8_isDigit at h
  refine v_iload_n (pc := 0) C 0 0 rfl rfl rfl ?_
  refine v_bipush (pc := 1) C 1 48 rfl (by decide) ?_
  refine v_icmp_lt (pc := 3) C 2 16 rfl (by decide) (fun c1 => ?_) (fun c1 => ?_)
  · replace h := g_ifT c1 h
    refine v_iconst (pc := 16) C 8 0 rfl (by decide) ?_
    obtain ⟨rfl, rfl⟩ := g_so h
    exact v_zret (pc := 17) C 9 rfl hr (by decide)
  · replace h := g_ifF c1 h
    refine v_iload_n (pc := 6) C 3 0 rfl rfl rfl ?_
    refine v_bipush (pc := 7) C 4 57 rfl (by decide) ?_
    refine v_icmp_gt (pc := 9) C 5 16 rfl (by decide) (fun c2 => ?_) (fun c2 => ?_)
    · replace h := g_ifT c2 h
      refine v_iconst (pc := 16) C 8 0 rfl (by decide) ?_
      obtain ⟨rfl, rfl⟩ := g_so h
      exact v_zret (pc := 17) C 9 rfl hr (by decide)
    · replace h := g_ifF c2 h
      refine v_iconst (pc := 12) C 6 1 rfl (by decide) ?_
      refine v_goto (pc := 13) C 7 17 rfl (by decide) ?_
      obtain ⟨rfl, rfl⟩ := g_so h
      exact v_zret (pc := 17) C 9 rfl hr (by decide)
theorem c_X8_isDigit {l : Launch} {w : gW} {rr : Int32} {rm : gM} (hJ : gJok w) {F : Nat} {x0 : Int32} {m : gM} (h : f_X8_isDigit w.2.2.2.2.1 F x0 m = some (rr, rm)) : gMet l 0 yX8_isDigit cX8_isDigit 1 (some .boolean) w [.int x0] m (some (.int rr)) rm :=
  gMet.of hJ mf_X8_isDigit dk_X8_isDigit (Nat.le_of_ble_eq_true rfl) (fun X _ C hr => tf_X8_isDigit (F := F) C hr h)
def f_X8_byteAt (sh : List gS) (F : Nat) (x0 : Nat) (x1 : Int32) (m : gM) : Option (Int32 × gM) :=
  g_if (oB sh x0 8) (if (m.1 x0 6) ≤ x1 then (some ((-1), m)) else ((m.2.2 x0 5).bind (fun t3 => g_if (aB sh t3 .int x1) (some (m.1 t3 (x1).toNatClampNeg, m)))))
set_option maxRecDepth 100000 in
set_option maxHeartbeats 4000000 in
theorem tf_X8_byteAt {X : gX} {w : gW} {rr : Int32} {rm : gM} (C : gC X w K_X8_byteAt 2 RX8 0) (hr : X.2.2.2.2.2.2.2.2.1.sig.returnType = (some .int)) {F : Nat} {x0 : Nat} {x1 : Int32} {m : gM} (h : f_X8_byteAt w.2.2.2.2.1 F x0 x1 m = some (rr, rm)) : gV X w 0 0 (gR X w (some (.int rr)) rm) 2 0 [(0, .ref x0), (1, .int x1)] [] m := by
  unfold f_X8_byteAt at h
  refine v_iload_n (pc := 0) C 0 1 rfl rfl rfl ?_
  refine v_aload_n (pc := 1) C 1 0 rfl rfl rfl ?_
  obtain ⟨o1, h⟩ := g_okk h
  refine v_getI (pc := 2) C 2 rfl lf_ScopeGraphModel_174.get (g_oB o1) rfl ?_
  refine v_icmp_ge (pc := 5) C 3 17 rfl (by decide) (fun c2 => ?_) (fun c2 => ?_)
  · replace h := g_ifT c2 h
    refine v_iconst (pc := 17) C 9 (-1) rfl (by decide) ?_
    obtain ⟨rfl, rfl⟩ := g_so h
    exact v_iret (pc := 18) C 10 rfl hr
  · replace h := g_ifF c2 h
    refine v_aload_n (pc := 8) C 4 0 rfl rfl rfl ?_
    obtain ⟨t3, qt3, h⟩ := g_bd h
    refine v_getR (pc := 9) C 5 rfl lf_ScopeGraphModel_16 (g_oB o1) rfl qt3 ?_
    refine v_iload_n (pc := 12) C 6 1 rfl rfl rfl ?_
    obtain ⟨b4, h⟩ := g_okk h
    refine v_iald' (pc := 13) C 7 rfl b4 ?_
    refine v_goto (pc := 14) C 8 18 rfl (by decide) ?_
    obtain ⟨rfl, rfl⟩ := g_so h
    exact v_iret (pc := 18) C 10 rfl hr
theorem c_X8_byteAt {l : Launch} {w : gW} {rr : Int32} {rm : gM} (hJ : gJok w) {F : Nat} {x0 : Nat} {x1 : Int32} {m : gM} (h : f_X8_byteAt w.2.2.2.2.1 F x0 x1 m = some (rr, rm)) : gMet l 0 yX8_byteAt cX8_byteAt 2 (some .int) w [.ref x0, .int x1] m (some (.int rr)) rm :=
  gMet.of hJ mf_X8_byteAt dk_X8_byteAt (Nat.le_of_ble_eq_true rfl) (fun X _ C hr => tf_X8_byteAt (F := F) C hr h)
def b_X8_wordOf_107 (sh : List gS) (F : Nat) (k6 : Nat → Nat → Int32 → Int32 → Int32 → Int32 → gM → Option (Int32 × gM)) (x0 : Nat) (x1 : Nat) (x2 : Int32) (x3 : Int32) (x5 : Int32) (y0 : Int32) (m : gM) : Option (Int32 × gM) :=
  nm (x5 + Int32.ofInt 1) (fun v1 => k6 x0 x1 x2 x3 y0 v1 m)
set_option maxRecDepth 100000 in
set_option maxHeartbeats 4000000 in
theorem tb_X8_wordOf_107 {X : gX} {w : gW} {rr : Int32} {rm : gM} (C : gC X w K_X8_wordOf 8 RX8 0) (hr : X.2.2.2.2.2.2.2.2.1.sig.returnType = (some .int)) {F : Nat} {k6 : Nat → Nat → Int32 → Int32 → Int32 → Int32 → gM → Option (Int32 × gM)} (hk6 : ∀ (z0 : Nat) (z1 : Nat) (z2 : Int32) (z3 : Int32) (z4 : Int32) (z5 : Int32) (m : gM), k6 z0 z1 z2 z3 z4 z5 m = some (rr, rm) → gV X w 0 0 (gR X w (some (.int rr)) rm) 8 6 [(0, .ref z0), (1, .ref z1), (2, .int z2), (3, .int z3), (4, .int z4), (5, .int z5)] [] m) {x0 : Nat} {x1 : Nat} {x2 : Int32} {x3 : Int32} {x5 : Int32} {y0 : Int32} {m : gM} (h : b_X8_wordOf_107 w.2.2.2.2.1 F k6 x0 x1 x2 x3 x5 y0 m = some (rr, rm)) : gV X w 0 0 (gR X w (some (.int rr)) rm) 8 107 [(0, .ref x0), (1, .ref x1), (2, .int x2), (3, .int x3), (5, .int x5)] [.int y0] m := by
  unfold b_X8_wordOf_107 at h
  refine v_istore (pc := 107) (lv' := [(4, .int y0), (0, .ref x0), (1, .ref x1), (2, .int x2), (3, .int x3), (5, .int x5)]) C 59 rfl (by decide) rfl ?_
  refine v_iincN (pc := 109) C 60 5 (fun v1 => [(5, .int v1), (4, .int y0), (0, .ref x0), (1, .ref x1), (2, .int x2), (3, .int x3)]) rfl rfl (by decide) (fun _ => rfl) (fun v1 ev1 => ?_)
  replace h := g_nm h ev1
  refine v_goto (pc := 112) C 61 6 rfl (by decide) ?_
  refine v_sub [(0, .ref x0), (1, .ref x1), (2, .int x2), (3, .int x3), (4, .int y0), (5, .int v1)] [2, 3, 4, 5, 1, 0] rfl ?_
  exact hk6 _ _ _ _ _ _ _ h
def b_X8_wordOf_92 (sh : List gS) (F : Nat) (k6 : Nat → Nat → Int32 → Int32 → Int32 → Int32 → gM → Option (Int32 × gM)) (x0 : Nat) (x1 : Nat) (x2 : Int32) (x3 : Int32) (x4 : Int32) (x5 : Int32) (x6 : Int32) (m : gM) : Option (Int32 × gM) :=
  if x6 = 0 then (b_X8_wordOf_107 sh F k6 x0 x1 x2 x3 x5 x4 m) else (b_X8_wordOf_107 sh F k6 x0 x1 x2 x3 x5 ((10 : Int32) + x5) m)
set_option maxRecDepth 100000 in
set_option maxHeartbeats 4000000 in
theorem tb_X8_wordOf_92 {X : gX} {w : gW} {rr : Int32} {rm : gM} (C : gC X w K_X8_wordOf 8 RX8 0) (hr : X.2.2.2.2.2.2.2.2.1.sig.returnType = (some .int)) {F : Nat} {k6 : Nat → Nat → Int32 → Int32 → Int32 → Int32 → gM → Option (Int32 × gM)} (hk6 : ∀ (z0 : Nat) (z1 : Nat) (z2 : Int32) (z3 : Int32) (z4 : Int32) (z5 : Int32) (m : gM), k6 z0 z1 z2 z3 z4 z5 m = some (rr, rm) → gV X w 0 0 (gR X w (some (.int rr)) rm) 8 6 [(0, .ref z0), (1, .ref z1), (2, .int z2), (3, .int z3), (4, .int z4), (5, .int z5)] [] m) {x0 : Nat} {x1 : Nat} {x2 : Int32} {x3 : Int32} {x4 : Int32} {x5 : Int32} {x6 : Int32} {m : gM} (h : b_X8_wordOf_92 w.2.2.2.2.1 F k6 x0 x1 x2 x3 x4 x5 x6 m = some (rr, rm)) : gV X w 0 0 (gR X w (some (.int rr)) rm) 8 92 [(0, .ref x0), (1, .ref x1), (2, .int x2), (3, .int x3), (4, .int x4), (5, .int x5), (6, .int x6)] [] m := by
  unfold b_X8_wordOf_92 at h
  refine v_iload (pc := 92) C 52 6 rfl rfl ?_
  refine v_if_eq (pc := 94) C 53 105 rfl (by decide) (fun c1 => ?_) (fun c1 => ?_)
  · replace h := g_ifT c1 h
    refine v_iload (pc := 105) C 58 4 rfl rfl ?_
    refine v_sub [(0, .ref x0), (1, .ref x1), (2, .int x2), (3, .int x3), (5, .int x5)] [0, 1, 2, 3, 5] rfl ?_
    exact tb_X8_wordOf_107 (F := F) C hr hk6 h
  · replace h := g_ifF c1 h
    refine v_bipush (pc := 97) C 54 10 rfl (by decide) ?_
    refine v_iload (pc := 99) C 55 5 rfl rfl ?_
    refine v_iadd (pc := 101) C 56 rfl ?_
    refine v_goto (pc := 102) C 57 107 rfl (by decide) ?_
    refine v_sub [(0, .ref x0), (1, .ref x1), (2, .int x2), (3, .int x3), (5, .int x5)] [0, 1, 2, 3, 5] rfl ?_
    exact tb_X8_wordOf_107 (F := F) C hr hk6 h
def b_X8_wordOf_84 (sh : List gS) (F : Nat) (k6 : Nat → Nat → Int32 → Int32 → Int32 → Int32 → gM → Option (Int32 × gM)) (k44 : Nat → Nat → Int32 → Int32 → Int32 → Int32 → Int32 → Int32 → gM → Option (Int32 × gM)) (x0 : Nat) (x1 : Nat) (x2 : Int32) (x3 : Int32) (x4 : Int32) (x5 : Int32) (x7 : Int32) (y0 : Int32) (m : gM) : Option (Int32 × gM) :=
  nm (x7 + Int32.ofInt 1) (fun v1 => k44 x0 x1 x2 x3 x4 x5 y0 v1 m)
set_option maxRecDepth 100000 in
set_option maxHeartbeats 4000000 in
theorem tb_X8_wordOf_84 {X : gX} {w : gW} {rr : Int32} {rm : gM} (C : gC X w K_X8_wordOf 8 RX8 0) (hr : X.2.2.2.2.2.2.2.2.1.sig.returnType = (some .int)) {F : Nat} {k6 : Nat → Nat → Int32 → Int32 → Int32 → Int32 → gM → Option (Int32 × gM)} {k44 : Nat → Nat → Int32 → Int32 → Int32 → Int32 → Int32 → Int32 → gM → Option (Int32 × gM)} (hk6 : ∀ (z0 : Nat) (z1 : Nat) (z2 : Int32) (z3 : Int32) (z4 : Int32) (z5 : Int32) (m : gM), k6 z0 z1 z2 z3 z4 z5 m = some (rr, rm) → gV X w 0 0 (gR X w (some (.int rr)) rm) 8 6 [(0, .ref z0), (1, .ref z1), (2, .int z2), (3, .int z3), (4, .int z4), (5, .int z5)] [] m) (hk44 : ∀ (z0 : Nat) (z1 : Nat) (z2 : Int32) (z3 : Int32) (z4 : Int32) (z5 : Int32) (z6 : Int32) (z7 : Int32) (m : gM), k44 z0 z1 z2 z3 z4 z5 z6 z7 m = some (rr, rm) → gV X w 0 0 (gR X w (some (.int rr)) rm) 8 44 [(0, .ref z0), (1, .ref z1), (2, .int z2), (3, .int z3), (4, .int z4), (5, .int z5), (6, .int z6), (7, .int z7)] [] m) {x0 : Nat} {x1 : Nat} {x2 : Int32} {x3 : Int32} {x4 : Int32} {x5 : Int32} {x7 : Int32} {y0 : Int32} {m : gM} (h : b_X8_wordOf_84 w.2.2.2.2.1 F k6 k44 x0 x1 x2 x3 x4 x5 x7 y0 m = some (rr, rm)) : gV X w 0 0 (gR X w (some (.int rr)) rm) 8 84 [(0, .ref x0), (1, .ref x1), (2, .int x2), (3, .int x3), (4, .int x4), (5, .int x5), (7, .int x7)] [.int y0] m := by
  unfold b_X8_wordOf_84 at h
  refine v_istore (pc := 84) (lv' := [(6, .int y0), (0, .ref x0), (1, .ref x1), (2, .int x2), (3, .int x3), (4, .int x4), (5, .int x5), (7, .int x7)]) C 49 rfl (by decide) rfl ?_
  refine v_iincN (pc := 86) C 50 7 (fun v1 => [(7, .int v1), (6, .int y0), (0, .ref x0), (1, .ref x1), (2, .int x2), (3, .int x3), (4, .int x4), (5, .int x5)]) rfl rfl (by decide) (fun _ => rfl) (fun v1 ev1 => ?_)
  replace h := g_nm h ev1
  refine v_goto (pc := 89) C 51 44 rfl (by decide) ?_
  refine v_sub [(0, .ref x0), (1, .ref x1), (2, .int x2), (3, .int x3), (4, .int x4), (5, .int x5), (6, .int y0), (7, .int v1)] [2, 3, 4, 5, 6, 7, 1, 0] rfl ?_
  exact hk44 _ _ _ _ _ _ _ _ _ h
def b_X8_wordOf_44 (sh : List gS) (F : Nat) (k6 : Nat → Nat → Int32 → Int32 → Int32 → Int32 → gM → Option (Int32 × gM)) (k44 : Nat → Nat → Int32 → Int32 → Int32 → Int32 → Int32 → Int32 → gM → Option (Int32 × gM)) (x0 : Nat) (x1 : Nat) (x2 : Int32) (x3 : Int32) (x4 : Int32) (x5 : Int32) (x6 : Int32) (x7 : Int32) (m : gM) : Option (Int32 × gM) :=
  if x6 = 0 then (b_X8_wordOf_92 sh F k6 x0 x1 x2 x3 x4 x5 x6 m) else (if x3 ≤ x7 then (b_X8_wordOf_92 sh F k6 x0 x1 x2 x3 x4 x5 x6 m) else (g_if (aB sh x1 .int (x2 + x7)) (g_if (oB sh x0 8) ((m.2.2 x0 35).bind (fun t5 => (m.2.2 x0 36).bind (fun t6 => g_if (aB sh t6 .int x5) (g_if (aB sh t5 .int ((m.1 t6 (x5).toNatClampNeg) + x7)) (if (m.1 x1 (x2 + x7).toNatClampNeg) = (m.1 t5 ((m.1 t6 (x5).toNatClampNeg) + x7).toNatClampNeg) then (b_X8_wordOf_84 sh F k6 k44 x0 x1 x2 x3 x4 x5 x7 1 m) else (b_X8_wordOf_84 sh F k6 k44 x0 x1 x2 x3 x4 x5 x7 0 m)))))))))
set_option maxRecDepth 100000 in
set_option maxHeartbeats 4000000 in
theorem tb_X8_wordOf_44 {X : gX} {w : gW} {rr : Int32} {rm : gM} (C : gC X w K_X8_wordOf 8 RX8 0) (hr : X.2.2.2.2.2.2.2.2.1.sig.returnType = (some .int)) {F : Nat} {k6 : Nat → Nat → Int32 → Int32 → Int32 → Int32 → gM → Option (Int32 × gM)} {k44 : Nat → Nat → Int32 → Int32 → Int32 → Int32 → Int32 → Int32 → gM → Option (Int32 × gM)} (hk6 : ∀ (z0 : Nat) (z1 : Nat) (z2 : Int32) (z3 : Int32) (z4 : Int32) (z5 : Int32) (m : gM), k6 z0 z1 z2 z3 z4 z5 m = some (rr, rm) → gV X w 0 0 (gR X w (some (.int rr)) rm) 8 6 [(0, .ref z0), (1, .ref z1), (2, .int z2), (3, .int z3), (4, .int z4), (5, .int z5)] [] m) (hk44 : ∀ (z0 : Nat) (z1 : Nat) (z2 : Int32) (z3 : Int32) (z4 : Int32) (z5 : Int32) (z6 : Int32) (z7 : Int32) (m : gM), k44 z0 z1 z2 z3 z4 z5 z6 z7 m = some (rr, rm) → gV X w 0 0 (gR X w (some (.int rr)) rm) 8 44 [(0, .ref z0), (1, .ref z1), (2, .int z2), (3, .int z3), (4, .int z4), (5, .int z5), (6, .int z6), (7, .int z7)] [] m) {x0 : Nat} {x1 : Nat} {x2 : Int32} {x3 : Int32} {x4 : Int32} {x5 : Int32} {x6 : Int32} {x7 : Int32} {m : gM} (h : b_X8_wordOf_44 w.2.2.2.2.1 F k6 k44 x0 x1 x2 x3 x4 x5 x6 x7 m = some (rr, rm)) : gV X w 0 0 (gR X w (some (.int rr)) rm) 8 44 [(0, .ref x0), (1, .ref x1), (2, .int x2), (3, .int x3), (4, .int x4), (5, .int x5), (6, .int x6), (7, .int x7)] [] m := by
  unfold b_X8_wordOf_44 at h
  refine v_iload (pc := 44) C 26 6 rfl rfl ?_
  refine v_if_eq (pc := 46) C 27 92 rfl (by decide) (fun c1 => ?_) (fun c1 => ?_)
  · replace h := g_ifT c1 h
    refine v_sub [(0, .ref x0), (1, .ref x1), (2, .int x2), (3, .int x3), (4, .int x4), (5, .int x5), (6, .int x6)] [0, 1, 2, 3, 4, 5, 6] rfl ?_
    exact tb_X8_wordOf_92 (F := F) C hr hk6 h
  · replace h := g_ifF c1 h
    refine v_iload (pc := 49) C 28 7 rfl rfl ?_
    refine v_iload_n (pc := 51) C 29 3 rfl rfl rfl ?_
    refine v_icmp_ge (pc := 52) C 30 92 rfl (by decide) (fun c2 => ?_) (fun c2 => ?_)
    · replace h := g_ifT c2 h
      refine v_sub [(0, .ref x0), (1, .ref x1), (2, .int x2), (3, .int x3), (4, .int x4), (5, .int x5), (6, .int x6)] [0, 1, 2, 3, 4, 5, 6] rfl ?_
      exact tb_X8_wordOf_92 (F := F) C hr hk6 h
    · replace h := g_ifF c2 h
      refine v_aload_n (pc := 55) C 31 1 rfl rfl rfl ?_
      refine v_iload_n (pc := 56) C 32 2 rfl rfl rfl ?_
      refine v_iload (pc := 57) C 33 7 rfl rfl ?_
      refine v_iadd (pc := 59) C 34 rfl ?_
      obtain ⟨b3, h⟩ := g_okk h
      refine v_iald' (pc := 60) C 35 rfl b3 ?_
      refine v_aload_n (pc := 61) C 36 0 rfl rfl rfl ?_
      obtain ⟨o4, h⟩ := g_okk h
      obtain ⟨t5, qt5, h⟩ := g_bd h
      refine v_getR (pc := 62) C 37 rfl lf_ScopeGraphModel_83 (g_oB o4) rfl qt5 ?_
      refine v_aload_n (pc := 65) C 38 0 rfl rfl rfl ?_
      obtain ⟨t6, qt6, h⟩ := g_bd h
      refine v_getR (pc := 66) C 39 rfl lf_ScopeGraphModel_86 (g_oB o4) rfl qt6 ?_
      refine v_iload (pc := 69) C 40 5 rfl rfl ?_
      obtain ⟨b7, h⟩ := g_okk h
      refine v_iald' (pc := 71) C 41 rfl b7 ?_
      refine v_iload (pc := 72) C 42 7 rfl rfl ?_
      refine v_iadd (pc := 74) C 43 rfl ?_
      obtain ⟨b8, h⟩ := g_okk h
      refine v_iald' (pc := 75) C 44 rfl b8 ?_
      refine v_icmp_ne (pc := 76) C 45 83 rfl (by decide) (fun c9 => ?_) (fun c9 => ?_)
      · replace h := g_ifF c9 h
        refine v_iconst (pc := 83) C 48 0 rfl (by decide) ?_
        refine v_sub [(0, .ref x0), (1, .ref x1), (2, .int x2), (3, .int x3), (4, .int x4), (5, .int x5), (7, .int x7)] [0, 1, 2, 3, 4, 5, 7] rfl ?_
        exact tb_X8_wordOf_84 (F := F) C hr hk6 hk44 h
      · replace h := g_ifT c9 h
        refine v_iconst (pc := 79) C 46 1 rfl (by decide) ?_
        refine v_goto (pc := 80) C 47 84 rfl (by decide) ?_
        refine v_sub [(0, .ref x0), (1, .ref x1), (2, .int x2), (3, .int x3), (4, .int x4), (5, .int x5), (7, .int x7)] [0, 1, 2, 3, 4, 5, 7] rfl ?_
        exact tb_X8_wordOf_84 (F := F) C hr hk6 hk44 h
def l_X8_wordOf_44 (sh : List gS) (F : Nat) (k6 : Nat → Nat → Int32 → Int32 → Int32 → Int32 → gM → Option (Int32 × gM)) : Nat → Nat → Nat → Int32 → Int32 → Int32 → Int32 → Int32 → Int32 → gM → Option (Int32 × gM)
  | 0 => fun _ _ _ _ _ _ _ _ _ => none
  | n + 1 => fun x0 x1 x2 x3 x4 x5 x6 x7 m => b_X8_wordOf_44 sh F k6 (l_X8_wordOf_44 sh F k6 n) x0 x1 x2 x3 x4 x5 x6 x7 m
theorem tl_X8_wordOf_44 {X : gX} {w : gW} {rr : Int32} {rm : gM} (C : gC X w K_X8_wordOf 8 RX8 0) (hr : X.2.2.2.2.2.2.2.2.1.sig.returnType = (some .int)) {F : Nat} {k6 : Nat → Nat → Int32 → Int32 → Int32 → Int32 → gM → Option (Int32 × gM)} (hk6 : ∀ (z0 : Nat) (z1 : Nat) (z2 : Int32) (z3 : Int32) (z4 : Int32) (z5 : Int32) (m : gM), k6 z0 z1 z2 z3 z4 z5 m = some (rr, rm) → gV X w 0 0 (gR X w (some (.int rr)) rm) 8 6 [(0, .ref z0), (1, .ref z1), (2, .int z2), (3, .int z3), (4, .int z4), (5, .int z5)] [] m) : ∀ (n : Nat) (x0 : Nat) (x1 : Nat) (x2 : Int32) (x3 : Int32) (x4 : Int32) (x5 : Int32) (x6 : Int32) (x7 : Int32) (m : gM), l_X8_wordOf_44 w.2.2.2.2.1 F k6 n x0 x1 x2 x3 x4 x5 x6 x7 m = some (rr, rm) → gV X w 0 0 (gR X w (some (.int rr)) rm) 8 44 [(0, .ref x0), (1, .ref x1), (2, .int x2), (3, .int x3), (4, .int x4), (5, .int x5), (6, .int x6), (7, .int x7)] [] m := by
  intro n
  induction n with
  | zero => intro x0 x1 x2 x3 x4 x5 x6 x7 m h; cases h
  | succ n ih => intro x0 x1 x2 x3 x4 x5 x6 x7 m h; exact tb_X8_wordOf_44 (F := F) C hr hk6 ih h
def b_X8_wordOf_39 (sh : List gS) (F : Nat) (k6 : Nat → Nat → Int32 → Int32 → Int32 → Int32 → gM → Option (Int32 × gM)) (x0 : Nat) (x1 : Nat) (x2 : Int32) (x3 : Int32) (x4 : Int32) (x5 : Int32) (y0 : Int32) (m : gM) : Option (Int32 × gM) :=
  l_X8_wordOf_44 sh F k6 F x0 x1 x2 x3 x4 x5 y0 0 m
set_option maxRecDepth 100000 in
set_option maxHeartbeats 4000000 in
theorem tb_X8_wordOf_39 {X : gX} {w : gW} {rr : Int32} {rm : gM} (C : gC X w K_X8_wordOf 8 RX8 0) (hr : X.2.2.2.2.2.2.2.2.1.sig.returnType = (some .int)) {F : Nat} {k6 : Nat → Nat → Int32 → Int32 → Int32 → Int32 → gM → Option (Int32 × gM)} (hk6 : ∀ (z0 : Nat) (z1 : Nat) (z2 : Int32) (z3 : Int32) (z4 : Int32) (z5 : Int32) (m : gM), k6 z0 z1 z2 z3 z4 z5 m = some (rr, rm) → gV X w 0 0 (gR X w (some (.int rr)) rm) 8 6 [(0, .ref z0), (1, .ref z1), (2, .int z2), (3, .int z3), (4, .int z4), (5, .int z5)] [] m) {x0 : Nat} {x1 : Nat} {x2 : Int32} {x3 : Int32} {x4 : Int32} {x5 : Int32} {y0 : Int32} {m : gM} (h : b_X8_wordOf_39 w.2.2.2.2.1 F k6 x0 x1 x2 x3 x4 x5 y0 m = some (rr, rm)) : gV X w 0 0 (gR X w (some (.int rr)) rm) 8 39 [(0, .ref x0), (1, .ref x1), (2, .int x2), (3, .int x3), (4, .int x4), (5, .int x5)] [.int y0] m := by
  unfold b_X8_wordOf_39 at h
  refine v_istore (pc := 39) (lv' := [(6, .int y0), (0, .ref x0), (1, .ref x1), (2, .int x2), (3, .int x3), (4, .int x4), (5, .int x5)]) C 23 rfl (by decide) rfl ?_
  refine v_iconst (pc := 41) C 24 0 rfl (by decide) ?_
  refine v_istore (pc := 42) (lv' := [(7, .int 0), (6, .int y0), (0, .ref x0), (1, .ref x1), (2, .int x2), (3, .int x3), (4, .int x4), (5, .int x5)]) C 25 rfl (by decide) rfl ?_
  refine v_sub [(0, .ref x0), (1, .ref x1), (2, .int x2), (3, .int x3), (4, .int x4), (5, .int x5), (6, .int y0), (7, .int 0)] [2, 3, 4, 5, 6, 7, 1, 0] rfl ?_
  exact tl_X8_wordOf_44 (F := F) C hr hk6 _ _ _ _ _ _ _ _ _ _ h
def b_X8_wordOf_6 (sh : List gS) (F : Nat) (k6 : Nat → Nat → Int32 → Int32 → Int32 → Int32 → gM → Option (Int32 × gM)) (x0 : Nat) (x1 : Nat) (x2 : Int32) (x3 : Int32) (x4 : Int32) (x5 : Int32) (m : gM) : Option (Int32 × gM) :=
  if (8 : Int32) ≤ x5 then (some (x4, m)) else (g_if (oB sh x0 8) ((m.2.2 x0 36).bind (fun t3 => g_if (aB sh t3 .int (x5 + (1 : Int32))) ((m.2.2 x0 36).bind (fun t5 => g_if (aB sh t5 .int x5) (if ((m.1 t3 (x5 + (1 : Int32)).toNatClampNeg) - (m.1 t5 (x5).toNatClampNeg)) = x3 then (b_X8_wordOf_39 sh F k6 x0 x1 x2 x3 x4 x5 1 m) else (b_X8_wordOf_39 sh F k6 x0 x1 x2 x3 x4 x5 0 m)))))))
set_option maxRecDepth 100000 in
set_option maxHeartbeats 4000000 in
theorem tb_X8_wordOf_6 {X : gX} {w : gW} {rr : Int32} {rm : gM} (C : gC X w K_X8_wordOf 8 RX8 0) (hr : X.2.2.2.2.2.2.2.2.1.sig.returnType = (some .int)) {F : Nat} {k6 : Nat → Nat → Int32 → Int32 → Int32 → Int32 → gM → Option (Int32 × gM)} (hk6 : ∀ (z0 : Nat) (z1 : Nat) (z2 : Int32) (z3 : Int32) (z4 : Int32) (z5 : Int32) (m : gM), k6 z0 z1 z2 z3 z4 z5 m = some (rr, rm) → gV X w 0 0 (gR X w (some (.int rr)) rm) 8 6 [(0, .ref z0), (1, .ref z1), (2, .int z2), (3, .int z3), (4, .int z4), (5, .int z5)] [] m) {x0 : Nat} {x1 : Nat} {x2 : Int32} {x3 : Int32} {x4 : Int32} {x5 : Int32} {m : gM} (h : b_X8_wordOf_6 w.2.2.2.2.1 F k6 x0 x1 x2 x3 x4 x5 m = some (rr, rm)) : gV X w 0 0 (gR X w (some (.int rr)) rm) 8 6 [(0, .ref x0), (1, .ref x1), (2, .int x2), (3, .int x3), (4, .int x4), (5, .int x5)] [] m := by
  unfold b_X8_wordOf_6 at h
  refine v_iload (pc := 6) C 4 5 rfl rfl ?_
  refine v_bipush (pc := 8) C 5 8 rfl (by decide) ?_
  refine v_icmp_ge (pc := 10) C 6 115 rfl (by decide) (fun c1 => ?_) (fun c1 => ?_)
  · replace h := g_ifT c1 h
    refine v_iload (pc := 115) C 62 4 rfl rfl ?_
    obtain ⟨rfl, rfl⟩ := g_so h
    exact v_iret (pc := 117) C 63 rfl hr
  · replace h := g_ifF c1 h
    refine v_aload_n (pc := 13) C 7 0 rfl rfl rfl ?_
    obtain ⟨o2, h⟩ := g_okk h
    obtain ⟨t3, qt3, h⟩ := g_bd h
    refine v_getR (pc := 14) C 8 rfl lf_ScopeGraphModel_86 (g_oB o2) rfl qt3 ?_
    refine v_iload (pc := 17) C 9 5 rfl rfl ?_
    refine v_iconst (pc := 19) C 10 1 rfl (by decide) ?_
    refine v_iadd (pc := 20) C 11 rfl ?_
    obtain ⟨b4, h⟩ := g_okk h
    refine v_iald' (pc := 21) C 12 rfl b4 ?_
    refine v_aload_n (pc := 22) C 13 0 rfl rfl rfl ?_
    obtain ⟨t5, qt5, h⟩ := g_bd h
    refine v_getR (pc := 23) C 14 rfl lf_ScopeGraphModel_86 (g_oB o2) rfl qt5 ?_
    refine v_iload (pc := 26) C 15 5 rfl rfl ?_
    obtain ⟨b6, h⟩ := g_okk h
    refine v_iald' (pc := 28) C 16 rfl b6 ?_
    refine v_isub (pc := 29) C 17 rfl ?_
    refine v_iload_n (pc := 30) C 18 3 rfl rfl rfl ?_
    refine v_icmp_ne (pc := 31) C 19 38 rfl (by decide) (fun c7 => ?_) (fun c7 => ?_)
    · replace h := g_ifF c7 h
      refine v_iconst (pc := 38) C 22 0 rfl (by decide) ?_
      refine v_sub [(0, .ref x0), (1, .ref x1), (2, .int x2), (3, .int x3), (4, .int x4), (5, .int x5)] [0, 1, 2, 3, 4, 5] rfl ?_
      exact tb_X8_wordOf_39 (F := F) C hr hk6 h
    · replace h := g_ifT c7 h
      refine v_iconst (pc := 34) C 20 1 rfl (by decide) ?_
      refine v_goto (pc := 35) C 21 39 rfl (by decide) ?_
      refine v_sub [(0, .ref x0), (1, .ref x1), (2, .int x2), (3, .int x3), (4, .int x4), (5, .int x5)] [0, 1, 2, 3, 4, 5] rfl ?_
      exact tb_X8_wordOf_39 (F := F) C hr hk6 h
def l_X8_wordOf_6 (sh : List gS) (F : Nat) : Nat → Nat → Nat → Int32 → Int32 → Int32 → Int32 → gM → Option (Int32 × gM)
  | 0 => fun _ _ _ _ _ _ _ => none
  | n + 1 => fun x0 x1 x2 x3 x4 x5 m => b_X8_wordOf_6 sh F (l_X8_wordOf_6 sh F n) x0 x1 x2 x3 x4 x5 m
theorem tl_X8_wordOf_6 {X : gX} {w : gW} {rr : Int32} {rm : gM} (C : gC X w K_X8_wordOf 8 RX8 0) (hr : X.2.2.2.2.2.2.2.2.1.sig.returnType = (some .int)) {F : Nat} : ∀ (n : Nat) (x0 : Nat) (x1 : Nat) (x2 : Int32) (x3 : Int32) (x4 : Int32) (x5 : Int32) (m : gM), l_X8_wordOf_6 w.2.2.2.2.1 F n x0 x1 x2 x3 x4 x5 m = some (rr, rm) → gV X w 0 0 (gR X w (some (.int rr)) rm) 8 6 [(0, .ref x0), (1, .ref x1), (2, .int x2), (3, .int x3), (4, .int x4), (5, .int x5)] [] m := by
  intro n
  induction n with
  | zero => intro x0 x1 x2 x3 x4 x5 m h; cases h
  | succ n ih => intro x0 x1 x2 x3 x4 x5 m h; exact tb_X8_wordOf_6 (F := F) C hr ih h
def f_X8_wordOf (sh : List gS) (F : Nat) (x0 : Nat) (x1 : Nat) (x2 : Int32) (x3 : Int32) (m : gM) : Option (Int32 × gM) :=
  l_X8_wordOf_6 sh F F x0 x1 x2 x3 1 0 m
set_option maxRecDepth 100000 in
set_option maxHeartbeats 4000000 in
theorem tf_X8_wordOf {X : gX} {w : gW} {rr : Int32} {rm : gM} (C : gC X w K_X8_wordOf 8 RX8 0) (hr : X.2.2.2.2.2.2.2.2.1.sig.returnType = (some .int)) {F : Nat} {x0 : Nat} {x1 : Nat} {x2 : Int32} {x3 : Int32} {m : gM} (h : f_X8_wordOf w.2.2.2.2.1 F x0 x1 x2 x3 m = some (rr, rm)) : gV X w 0 0 (gR X w (some (.int rr)) rm) 8 0 [(0, .ref x0), (1, .ref x1), (2, .int x2), (3, .int x3)] [] m := by
  unfold f_X8_wordOf at h
  refine v_iconst (pc := 0) C 0 1 rfl (by decide) ?_
  refine v_istore (pc := 1) (lv' := [(4, .int 1), (0, .ref x0), (1, .ref x1), (2, .int x2), (3, .int x3)]) C 1 rfl (by decide) rfl ?_
  refine v_iconst (pc := 3) C 2 0 rfl (by decide) ?_
  refine v_istore (pc := 4) (lv' := [(5, .int 0), (4, .int 1), (0, .ref x0), (1, .ref x1), (2, .int x2), (3, .int x3)]) C 3 rfl (by decide) rfl ?_
  refine v_sub [(0, .ref x0), (1, .ref x1), (2, .int x2), (3, .int x3), (4, .int 1), (5, .int 0)] [2, 3, 4, 5, 1, 0] rfl ?_
  exact tl_X8_wordOf_6 (F := F) C hr _ _ _ _ _ _ _ _ h
theorem c_X8_wordOf {l : Launch} {w : gW} {rr : Int32} {rm : gM} (hJ : gJok w) {F : Nat} {x0 : Nat} {x1 : Nat} {x2 : Int32} {x3 : Int32} {m : gM} (h : f_X8_wordOf w.2.2.2.2.1 F x0 x1 x2 x3 m = some (rr, rm)) : gMet l 0 yX8_wordOf cX8_wordOf 8 (some .int) w [.ref x0, .ref x1, .int x2, .int x3] m (some (.int rr)) rm :=
  gMet.of hJ mf_X8_wordOf dk_X8_wordOf (Nat.le_of_ble_eq_true rfl) (fun X _ C hr => tf_X8_wordOf (F := F) C hr h)
def b_X8_next_52 (sh : List gS) (F : Nat) (k0 : Nat → gM → Option (Int32 × gM)) (x0 : Nat) (m : gM) : Option (Int32 × gM) :=
  g_if (oB sh x0 8) (nm (gsI m x0 37 ((m.1 x0 37) + (1 : Int32))) (fun m2 => k0 x0 m2))
set_option maxRecDepth 100000 in
set_option maxHeartbeats 4000000 in
theorem tb_X8_next_52 {X : gX} {w : gW} {rr : Int32} {rm : gM} (C : gC X w K_X8_next 2 RX8 1) (hr : X.2.2.2.2.2.2.2.2.1.sig.returnType = (some .boolean)) {F : Nat} {k0 : Nat → gM → Option (Int32 × gM)} (hk0 : ∀ (z0 : Nat) (m : gM), k0 z0 m = some (rr, rm) → gV X w 0 0 (gR X w (some (.int rr)) rm) 2 0 [(0, .ref z0)] [] m) {x0 : Nat} {m : gM} (h : b_X8_next_52 w.2.2.2.2.1 F k0 x0 m = some (rr, rm)) : gV X w 0 0 (gR X w (some (.int rr)) rm) 2 52 [(0, .ref x0)] [] m := by
  unfold b_X8_next_52 at h
  refine v_aload_n (pc := 52) C 24 0 rfl rfl rfl ?_
  refine v_dup (pc := 53) C 25 rfl rfl ?_
  obtain ⟨o1, h⟩ := g_okk h
  refine v_getI (pc := 54) C 26 rfl lf_ScopeGraphModel_177.get (g_oB o1) rfl ?_
  refine v_iconst (pc := 57) C 27 1 rfl (by decide) ?_
  refine v_iadd (pc := 58) C 28 rfl ?_
  refine v_putI (pc := 59) C 29 rfl lf_ScopeGraphModel_177 (g_oB o1) rfl ?_
  refine v_topM (fun m2 em2 => ?_)
  replace h := g_nm h em2
  refine v_goto (pc := 62) C 30 0 rfl (by decide) ?_
  refine v_sub [(0, .ref x0)] [0] rfl ?_
  exact hk0 _ _ h
def b_X8_next_358 (sh : List gS) (F : Nat) (m : gM) : Option (Int32 × gM) :=
  some (1, m)
set_option maxRecDepth 100000 in
set_option maxHeartbeats 4000000 in
theorem tb_X8_next_358 {X : gX} {w : gW} {rr : Int32} {rm : gM} (C : gC X w K_X8_next 2 RX8 1) (hr : X.2.2.2.2.2.2.2.2.1.sig.returnType = (some .boolean)) {F : Nat} {m : gM} (h : b_X8_next_358 w.2.2.2.2.1 F m = some (rr, rm)) : gV X w 0 0 (gR X w (some (.int rr)) rm) 2 358 [] [] m := by
  unfold b_X8_next_358 at h
  refine v_iconst (pc := 358) C 181 1 rfl (by decide) ?_
  refine v_goto (pc := 359) C 182 363 rfl (by decide) ?_
  obtain ⟨rfl, rfl⟩ := g_so h
  exact v_zret (pc := 363) C 184 rfl hr (by decide)
def b_X8_next_266 (sh : List gS) (F : Nat) (m : gM) : Option (Int32 × gM) :=
  some (1, m)
set_option maxRecDepth 100000 in
set_option maxHeartbeats 4000000 in
theorem tb_X8_next_266 {X : gX} {w : gW} {rr : Int32} {rm : gM} (C : gC X w K_X8_next 2 RX8 1) (hr : X.2.2.2.2.2.2.2.2.1.sig.returnType = (some .boolean)) {F : Nat} {m : gM} (h : b_X8_next_266 w.2.2.2.2.1 F m = some (rr, rm)) : gV X w 0 0 (gR X w (some (.int rr)) rm) 2 266 [] [] m := by
  unfold b_X8_next_266 at h
  refine v_iconst (pc := 266) C 132 1 rfl (by decide) ?_
  refine v_goto (pc := 267) C 133 271 rfl (by decide) ?_
  obtain ⟨rfl, rfl⟩ := g_so h
  exact v_zret (pc := 271) C 135 rfl hr (by decide)
def b_X8_next_208 (sh : List gS) (F : Nat) (k208 : Nat → gM → Option (Int32 × gM)) (x0 : Nat) (m : gM) : Option (Int32 × gM) :=
  g_if (oB sh x0 8) ((f_X8_byteAt sh F x0 (m.1 x0 37) m).bind (fun q4 => nm q4.1 (fun r3 => nm q4.2 (fun m2 => (f_X8_isDigit sh F r3 m2).bind (fun q7 => nm q7.1 (fun r6 => nm q7.2 (fun m5 => if r6 = 0 then (nm (gsI m5 x0 38 2) (fun m9 => if ((m9.1 x0 37) - (m9.1 x0 40)) ≤ (9 : Int32) then (b_X8_next_266 sh F m9) else ((f_X8_blame sh F x0 1 (m9.1 x0 40) m9).bind (fun q13 => nm q13.1 (fun r12 => nm q13.2 (fun m11 => if r12 = 0 then (some (0, m11)) else (b_X8_next_266 sh F m11))))))) else (nm (gsI m5 x0 37 ((m5.1 x0 37) + (1 : Int32))) (fun m15 => k208 x0 m15)))))))))
set_option maxRecDepth 100000 in
set_option maxHeartbeats 4000000 in
theorem tb_X8_next_208 {X : gX} {w : gW} {rr : Int32} {rm : gM} (C : gC X w K_X8_next 2 RX8 1) (hr : X.2.2.2.2.2.2.2.2.1.sig.returnType = (some .boolean)) {F : Nat} {k208 : Nat → gM → Option (Int32 × gM)} (hk208 : ∀ (z0 : Nat) (m : gM), k208 z0 m = some (rr, rm) → gV X w 0 0 (gR X w (some (.int rr)) rm) 2 208 [(0, .ref z0)] [] m) {x0 : Nat} {m : gM} (h : b_X8_next_208 w.2.2.2.2.1 F k208 x0 m = some (rr, rm)) : gV X w 0 0 (gR X w (some (.int rr)) rm) 2 208 [(0, .ref x0)] [] m := by
  unfold b_X8_next_208 at h
  refine v_aload_n (pc := 208) C 103 0 rfl rfl rfl ?_
  refine v_aload_n (pc := 209) C 104 0 rfl rfl rfl ?_
  obtain ⟨o1, h⟩ := g_okk h
  refine v_getI (pc := 210) C 105 rfl lf_ScopeGraphModel_177.get (g_oB o1) rfl ?_
  obtain ⟨⟨r3, m2⟩, qm2, h⟩ := g_bd h
  replace h := g_nm (y := m2) (g_nm (y := r3) h rfl) rfl
  refine v_callV (pc := 213) C 106 rfl mf_X8_byteAt clX8 rfl im_X8_byteAt lm_ScopeGraphModel_180 (c_X8_byteAt C.2.2.2.2.2.2.2.2.2.2.2 qm2) (by decide) rfl (g_oB o1) (Nat.le_of_ble_eq_true rfl) ⟨Nat.zero_le _, Nat.zero_le _⟩ rfl ?_
  change gV X w 0 0 (gR X w (some (.int rr)) rm) 2 216 [(0, .ref x0)] [.int r3] m2
  obtain ⟨⟨r6, m5⟩, qm5, h⟩ := g_bd h
  replace h := g_nm (y := m5) (g_nm (y := r6) h rfl) rfl
  refine v_callS (pc := 216) C 107 rfl mf_X8_isDigit sm_X8_isDigit lm_ScopeGraphModel_194 (c_X8_isDigit C.2.2.2.2.2.2.2.2.2.2.2 qm5) (by decide) rfl (Nat.le_of_ble_eq_true rfl) ⟨Nat.zero_le _, Nat.zero_le _⟩ rfl ?_
  change gV X w 0 0 (gR X w (some (.int rr)) rm) 2 219 [(0, .ref x0)] [.int r6] m5
  refine v_if_eq (pc := 219) C 108 235 rfl (by decide) (fun c8 => ?_) (fun c8 => ?_)
  · replace h := g_ifT c8 h
    refine v_aload_n (pc := 235) C 116 0 rfl rfl rfl ?_
    refine v_iconst (pc := 236) C 117 2 rfl (by decide) ?_
    refine v_putI (pc := 237) C 118 rfl lf_ScopeGraphModel_187 (g_oB o1) rfl ?_
    refine v_topM (fun m9 em9 => ?_)
    replace h := g_nm h em9
    refine v_aload_n (pc := 240) C 119 0 rfl rfl rfl ?_
    refine v_getI (pc := 241) C 120 rfl lf_ScopeGraphModel_177.get (g_oB o1) rfl ?_
    refine v_aload_n (pc := 244) C 121 0 rfl rfl rfl ?_
    refine v_getI (pc := 245) C 122 rfl lf_ScopeGraphModel_184.get (g_oB o1) rfl ?_
    refine v_isub (pc := 248) C 123 rfl ?_
    refine v_bipush (pc := 249) C 124 9 rfl (by decide) ?_
    refine v_icmp_le (pc := 251) C 125 266 rfl (by decide) (fun c10 => ?_) (fun c10 => ?_)
    · replace h := g_ifT c10 h
      refine v_sub [] [] rfl ?_
      exact tb_X8_next_266 (F := F) C hr h
    · replace h := g_ifF c10 h
      refine v_aload_n (pc := 254) C 126 0 rfl rfl rfl ?_
      refine v_iconst (pc := 255) C 127 1 rfl (by decide) ?_
      refine v_aload_n (pc := 256) C 128 0 rfl rfl rfl ?_
      refine v_getI (pc := 257) C 129 rfl lf_ScopeGraphModel_184.get (g_oB o1) rfl ?_
      obtain ⟨⟨r12, m11⟩, qm11, h⟩ := g_bd h
      replace h := g_nm (y := m11) (g_nm (y := r12) h rfl) rfl
      refine v_callV (pc := 260) C 130 rfl mf_X8_blame clX8 rfl im_X8_blame lm_ScopeGraphModel_204 (c_X8_blame C.2.2.2.2.2.2.2.2.2.2.2 qm11) (by decide) rfl (g_oB o1) (Nat.le_of_ble_eq_true rfl) ⟨Nat.zero_le _, Nat.zero_le _⟩ rfl ?_
      change gV X w 0 0 (gR X w (some (.int rr)) rm) 2 263 [(0, .ref x0)] [.int r12] m11
      refine v_if_eq (pc := 263) C 131 270 rfl (by decide) (fun c14 => ?_) (fun c14 => ?_)
      · replace h := g_ifT c14 h
        refine v_iconst (pc := 270) C 134 0 rfl (by decide) ?_
        obtain ⟨rfl, rfl⟩ := g_so h
        exact v_zret (pc := 271) C 135 rfl hr (by decide)
      · replace h := g_ifF c14 h
        refine v_sub [] [] rfl ?_
        exact tb_X8_next_266 (F := F) C hr h
  · replace h := g_ifF c8 h
    refine v_aload_n (pc := 222) C 109 0 rfl rfl rfl ?_
    refine v_dup (pc := 223) C 110 rfl rfl ?_
    refine v_getI (pc := 224) C 111 rfl lf_ScopeGraphModel_177.get (g_oB o1) rfl ?_
    refine v_iconst (pc := 227) C 112 1 rfl (by decide) ?_
    refine v_iadd (pc := 228) C 113 rfl ?_
    refine v_putI (pc := 229) C 114 rfl lf_ScopeGraphModel_177 (g_oB o1) rfl ?_
    refine v_topM (fun m15 em15 => ?_)
    replace h := g_nm h em15
    refine v_goto (pc := 232) C 115 208 rfl (by decide) ?_
    refine v_sub [(0, .ref x0)] [0] rfl ?_
    exact hk208 _ _ h
def l_X8_next_208 (sh : List gS) (F : Nat) : Nat → Nat → gM → Option (Int32 × gM)
  | 0 => fun _ _ => none
  | n + 1 => fun x0 m => b_X8_next_208 sh F (l_X8_next_208 sh F n) x0 m
theorem tl_X8_next_208 {X : gX} {w : gW} {rr : Int32} {rm : gM} (C : gC X w K_X8_next 2 RX8 1) (hr : X.2.2.2.2.2.2.2.2.1.sig.returnType = (some .boolean)) {F : Nat} : ∀ (n : Nat) (x0 : Nat) (m : gM), l_X8_next_208 w.2.2.2.2.1 F n x0 m = some (rr, rm) → gV X w 0 0 (gR X w (some (.int rr)) rm) 2 208 [(0, .ref x0)] [] m := by
  intro n
  induction n with
  | zero => intro x0 m h; cases h
  | succ n ih => intro x0 m h; exact tb_X8_next_208 (F := F) C hr ih h
def b_X8_next_128 (sh : List gS) (F : Nat) (k100 : Nat → gM → Option (Int32 × gM)) (x0 : Nat) (m : gM) : Option (Int32 × gM) :=
  g_if (oB sh x0 8) (nm (gsI m x0 37 ((m.1 x0 37) + (1 : Int32))) (fun m2 => k100 x0 m2))
set_option maxRecDepth 100000 in
set_option maxHeartbeats 4000000 in
theorem tb_X8_next_128 {X : gX} {w : gW} {rr : Int32} {rm : gM} (C : gC X w K_X8_next 2 RX8 1) (hr : X.2.2.2.2.2.2.2.2.1.sig.returnType = (some .boolean)) {F : Nat} {k100 : Nat → gM → Option (Int32 × gM)} (hk100 : ∀ (z0 : Nat) (m : gM), k100 z0 m = some (rr, rm) → gV X w 0 0 (gR X w (some (.int rr)) rm) 2 100 [(0, .ref z0)] [] m) {x0 : Nat} {m : gM} (h : b_X8_next_128 w.2.2.2.2.1 F k100 x0 m = some (rr, rm)) : gV X w 0 0 (gR X w (some (.int rr)) rm) 2 128 [(0, .ref x0)] [] m := by
  unfold b_X8_next_128 at h
  refine v_aload_n (pc := 128) C 62 0 rfl rfl rfl ?_
  refine v_dup (pc := 129) C 63 rfl rfl ?_
  obtain ⟨o1, h⟩ := g_okk h
  refine v_getI (pc := 130) C 64 rfl lf_ScopeGraphModel_177.get (g_oB o1) rfl ?_
  refine v_iconst (pc := 133) C 65 1 rfl (by decide) ?_
  refine v_iadd (pc := 134) C 66 rfl ?_
  refine v_putI (pc := 135) C 67 rfl lf_ScopeGraphModel_177 (g_oB o1) rfl ?_
  refine v_topM (fun m2 em2 => ?_)
  replace h := g_nm h em2
  refine v_goto (pc := 138) C 68 100 rfl (by decide) ?_
  refine v_sub [(0, .ref x0)] [0] rfl ?_
  exact hk100 _ _ h
def b_X8_next_195 (sh : List gS) (F : Nat) (m : gM) : Option (Int32 × gM) :=
  some (1, m)
set_option maxRecDepth 100000 in
set_option maxHeartbeats 4000000 in
theorem tb_X8_next_195 {X : gX} {w : gW} {rr : Int32} {rm : gM} (C : gC X w K_X8_next 2 RX8 1) (hr : X.2.2.2.2.2.2.2.2.1.sig.returnType = (some .boolean)) {F : Nat} {m : gM} (h : b_X8_next_195 w.2.2.2.2.1 F m = some (rr, rm)) : gV X w 0 0 (gR X w (some (.int rr)) rm) 2 195 [] [] m := by
  unfold b_X8_next_195 at h
  refine v_iconst (pc := 195) C 96 1 rfl (by decide) ?_
  refine v_goto (pc := 196) C 97 200 rfl (by decide) ?_
  obtain ⟨rfl, rfl⟩ := g_so h
  exact v_zret (pc := 200) C 99 rfl hr (by decide)
def b_X8_next_100 (sh : List gS) (F : Nat) (k100 : Nat → gM → Option (Int32 × gM)) (x0 : Nat) (m : gM) : Option (Int32 × gM) :=
  g_if (oB sh x0 8) ((f_X8_byteAt sh F x0 (m.1 x0 37) m).bind (fun q4 => nm q4.1 (fun r3 => nm q4.2 (fun m2 => (f_X8_isLetter sh F r3 m2).bind (fun q7 => nm q7.1 (fun r6 => nm q7.2 (fun m5 => if r6 = 0 then ((f_X8_byteAt sh F x0 (m5.1 x0 37) m5).bind (fun q11 => nm q11.1 (fun r10 => nm q11.2 (fun m9 => (f_X8_isDigit sh F r10 m9).bind (fun q14 => nm q14.1 (fun r13 => nm q14.2 (fun m12 => if r13 = 0 then (nm (gsI m12 x0 41 ((m12.1 x0 37) - (m12.1 x0 40))) (fun m16 => (m16.2.2 x0 5).bind (fun t17 => (f_X8_wordOf sh F x0 t17 (m16.1 x0 40) (m16.1 x0 41) m16).bind (fun q20 => nm q20.1 (fun r19 => nm q20.2 (fun m18 => nm (gsI m18 x0 38 r19) (fun m21 => if (m21.1 x0 41) ≤ (12 : Int32) then (b_X8_next_195 sh F m21) else ((f_X8_blame sh F x0 1 (m21.1 x0 40) m21).bind (fun q25 => nm q25.1 (fun r24 => nm q25.2 (fun m23 => if r24 = 0 then (some (0, m23)) else (b_X8_next_195 sh F m23)))))))))))) else (b_X8_next_128 sh F k100 x0 m12)))))))) else (b_X8_next_128 sh F k100 x0 m5))))))))
set_option maxRecDepth 100000 in
set_option maxHeartbeats 4000000 in
theorem tb_X8_next_100 {X : gX} {w : gW} {rr : Int32} {rm : gM} (C : gC X w K_X8_next 2 RX8 1) (hr : X.2.2.2.2.2.2.2.2.1.sig.returnType = (some .boolean)) {F : Nat} {k100 : Nat → gM → Option (Int32 × gM)} (hk100 : ∀ (z0 : Nat) (m : gM), k100 z0 m = some (rr, rm) → gV X w 0 0 (gR X w (some (.int rr)) rm) 2 100 [(0, .ref z0)] [] m) {x0 : Nat} {m : gM} (h : b_X8_next_100 w.2.2.2.2.1 F k100 x0 m = some (rr, rm)) : gV X w 0 0 (gR X w (some (.int rr)) rm) 2 100 [(0, .ref x0)] [] m := by
  unfold b_X8_next_100 at h
  refine v_aload_n (pc := 100) C 50 0 rfl rfl rfl ?_
  refine v_aload_n (pc := 101) C 51 0 rfl rfl rfl ?_
  obtain ⟨o1, h⟩ := g_okk h
  refine v_getI (pc := 102) C 52 rfl lf_ScopeGraphModel_177.get (g_oB o1) rfl ?_
  obtain ⟨⟨r3, m2⟩, qm2, h⟩ := g_bd h
  replace h := g_nm (y := m2) (g_nm (y := r3) h rfl) rfl
  refine v_callV (pc := 105) C 53 rfl mf_X8_byteAt clX8 rfl im_X8_byteAt lm_ScopeGraphModel_180 (c_X8_byteAt C.2.2.2.2.2.2.2.2.2.2.2 qm2) (by decide) rfl (g_oB o1) (Nat.le_of_ble_eq_true rfl) ⟨Nat.zero_le _, Nat.zero_le _⟩ rfl ?_
  change gV X w 0 0 (gR X w (some (.int rr)) rm) 2 108 [(0, .ref x0)] [.int r3] m2
  obtain ⟨⟨r6, m5⟩, qm5, h⟩ := g_bd h
  replace h := g_nm (y := m5) (g_nm (y := r6) h rfl) rfl
  refine v_callS (pc := 108) C 54 rfl mf_X8_isLetter sm_X8_isLetter lm_ScopeGraphModel_190 (c_X8_isLetter C.2.2.2.2.2.2.2.2.2.2.2 qm5) (by decide) rfl (Nat.le_of_ble_eq_true rfl) ⟨Nat.zero_le _, Nat.zero_le _⟩ rfl ?_
  change gV X w 0 0 (gR X w (some (.int rr)) rm) 2 111 [(0, .ref x0)] [.int r6] m5
  refine v_if_ne (pc := 111) C 55 128 rfl (by decide) (fun c8 => ?_) (fun c8 => ?_)
  · replace h := g_ifF c8 h
    refine v_sub [(0, .ref x0)] [0] rfl ?_
    exact tb_X8_next_128 (F := F) C hr hk100 h
  · replace h := g_ifT c8 h
    refine v_aload_n (pc := 114) C 56 0 rfl rfl rfl ?_
    refine v_aload_n (pc := 115) C 57 0 rfl rfl rfl ?_
    refine v_getI (pc := 116) C 58 rfl lf_ScopeGraphModel_177.get (g_oB o1) rfl ?_
    obtain ⟨⟨r10, m9⟩, qm9, h⟩ := g_bd h
    replace h := g_nm (y := m9) (g_nm (y := r10) h rfl) rfl
    refine v_callV (pc := 119) C 59 rfl mf_X8_byteAt clX8 rfl im_X8_byteAt lm_ScopeGraphModel_180 (c_X8_byteAt C.2.2.2.2.2.2.2.2.2.2.2 qm9) (by decide) rfl (g_oB o1) (Nat.le_of_ble_eq_true rfl) ⟨Nat.zero_le _, Nat.zero_le _⟩ rfl ?_
    change gV X w 0 0 (gR X w (some (.int rr)) rm) 2 122 [(0, .ref x0)] [.int r10] m9
    obtain ⟨⟨r13, m12⟩, qm12, h⟩ := g_bd h
    replace h := g_nm (y := m12) (g_nm (y := r13) h rfl) rfl
    refine v_callS (pc := 122) C 60 rfl mf_X8_isDigit sm_X8_isDigit lm_ScopeGraphModel_194 (c_X8_isDigit C.2.2.2.2.2.2.2.2.2.2.2 qm12) (by decide) rfl (Nat.le_of_ble_eq_true rfl) ⟨Nat.zero_le _, Nat.zero_le _⟩ rfl ?_
    change gV X w 0 0 (gR X w (some (.int rr)) rm) 2 125 [(0, .ref x0)] [.int r13] m12
    refine v_if_eq (pc := 125) C 61 141 rfl (by decide) (fun c15 => ?_) (fun c15 => ?_)
    · replace h := g_ifT c15 h
      refine v_aload_n (pc := 141) C 69 0 rfl rfl rfl ?_
      refine v_aload_n (pc := 142) C 70 0 rfl rfl rfl ?_
      refine v_getI (pc := 143) C 71 rfl lf_ScopeGraphModel_177.get (g_oB o1) rfl ?_
      refine v_aload_n (pc := 146) C 72 0 rfl rfl rfl ?_
      refine v_getI (pc := 147) C 73 rfl lf_ScopeGraphModel_184.get (g_oB o1) rfl ?_
      refine v_isub (pc := 150) C 74 rfl ?_
      refine v_putI (pc := 151) C 75 rfl lf_ScopeGraphModel_197 (g_oB o1) rfl ?_
      refine v_topM (fun m16 em16 => ?_)
      replace h := g_nm h em16
      refine v_aload_n (pc := 154) C 76 0 rfl rfl rfl ?_
      refine v_aload_n (pc := 155) C 77 0 rfl rfl rfl ?_
      refine v_aload_n (pc := 156) C 78 0 rfl rfl rfl ?_
      obtain ⟨t17, qt17, h⟩ := g_bd h
      refine v_getR (pc := 157) C 79 rfl lf_ScopeGraphModel_16 (g_oB o1) rfl qt17 ?_
      refine v_aload_n (pc := 160) C 80 0 rfl rfl rfl ?_
      refine v_getI (pc := 161) C 81 rfl lf_ScopeGraphModel_184.get (g_oB o1) rfl ?_
      refine v_aload_n (pc := 164) C 82 0 rfl rfl rfl ?_
      refine v_getI (pc := 165) C 83 rfl lf_ScopeGraphModel_197.get (g_oB o1) rfl ?_
      obtain ⟨⟨r19, m18⟩, qm18, h⟩ := g_bd h
      replace h := g_nm (y := m18) (g_nm (y := r19) h rfl) rfl
      refine v_callV (pc := 168) C 84 rfl mf_X8_wordOf clX8 rfl im_X8_wordOf lm_ScopeGraphModel_200 (c_X8_wordOf C.2.2.2.2.2.2.2.2.2.2.2 qm18) (by decide) rfl (g_oB o1) (Nat.le_of_ble_eq_true rfl) ⟨Nat.zero_le _, Nat.zero_le _⟩ rfl ?_
      change gV X w 0 0 (gR X w (some (.int rr)) rm) 2 171 [(0, .ref x0)] [.int r19, .ref x0] m18
      refine v_putI (pc := 171) C 85 rfl lf_ScopeGraphModel_187 (g_oB o1) rfl ?_
      refine v_topM (fun m21 em21 => ?_)
      replace h := g_nm h em21
      refine v_aload_n (pc := 174) C 86 0 rfl rfl rfl ?_
      refine v_getI (pc := 175) C 87 rfl lf_ScopeGraphModel_197.get (g_oB o1) rfl ?_
      refine v_bipush (pc := 178) C 88 12 rfl (by decide) ?_
      refine v_icmp_le (pc := 180) C 89 195 rfl (by decide) (fun c22 => ?_) (fun c22 => ?_)
      · replace h := g_ifT c22 h
        refine v_sub [] [] rfl ?_
        exact tb_X8_next_195 (F := F) C hr h
      · replace h := g_ifF c22 h
        refine v_aload_n (pc := 183) C 90 0 rfl rfl rfl ?_
        refine v_iconst (pc := 184) C 91 1 rfl (by decide) ?_
        refine v_aload_n (pc := 185) C 92 0 rfl rfl rfl ?_
        refine v_getI (pc := 186) C 93 rfl lf_ScopeGraphModel_184.get (g_oB o1) rfl ?_
        obtain ⟨⟨r24, m23⟩, qm23, h⟩ := g_bd h
        replace h := g_nm (y := m23) (g_nm (y := r24) h rfl) rfl
        refine v_callV (pc := 189) C 94 rfl mf_X8_blame clX8 rfl im_X8_blame lm_ScopeGraphModel_204 (c_X8_blame C.2.2.2.2.2.2.2.2.2.2.2 qm23) (by decide) rfl (g_oB o1) (Nat.le_of_ble_eq_true rfl) ⟨Nat.zero_le _, Nat.zero_le _⟩ rfl ?_
        change gV X w 0 0 (gR X w (some (.int rr)) rm) 2 192 [(0, .ref x0)] [.int r24] m23
        refine v_if_eq (pc := 192) C 95 199 rfl (by decide) (fun c26 => ?_) (fun c26 => ?_)
        · replace h := g_ifT c26 h
          refine v_iconst (pc := 199) C 98 0 rfl (by decide) ?_
          obtain ⟨rfl, rfl⟩ := g_so h
          exact v_zret (pc := 200) C 99 rfl hr (by decide)
        · replace h := g_ifF c26 h
          refine v_sub [] [] rfl ?_
          exact tb_X8_next_195 (F := F) C hr h
    · replace h := g_ifF c15 h
      refine v_sub [(0, .ref x0)] [0] rfl ?_
      exact tb_X8_next_128 (F := F) C hr hk100 h
def l_X8_next_100 (sh : List gS) (F : Nat) : Nat → Nat → gM → Option (Int32 × gM)
  | 0 => fun _ _ => none
  | n + 1 => fun x0 m => b_X8_next_100 sh F (l_X8_next_100 sh F n) x0 m
theorem tl_X8_next_100 {X : gX} {w : gW} {rr : Int32} {rm : gM} (C : gC X w K_X8_next 2 RX8 1) (hr : X.2.2.2.2.2.2.2.2.1.sig.returnType = (some .boolean)) {F : Nat} : ∀ (n : Nat) (x0 : Nat) (m : gM), l_X8_next_100 w.2.2.2.2.1 F n x0 m = some (rr, rm) → gV X w 0 0 (gR X w (some (.int rr)) rm) 2 100 [(0, .ref x0)] [] m := by
  intro n
  induction n with
  | zero => intro x0 m h; cases h
  | succ n ih => intro x0 m h; exact tb_X8_next_100 (F := F) C hr ih h
def b_X8_next_0 (sh : List gS) (F : Nat) (k0 : Nat → gM → Option (Int32 × gM)) (x0 : Nat) (m : gM) : Option (Int32 × gM) :=
  g_if (oB sh x0 8) ((f_X8_byteAt sh F x0 (m.1 x0 37) m).bind (fun q4 => nm q4.1 (fun r3 => nm q4.2 (fun m2 => if r3 = (32 : Int32) then (b_X8_next_52 sh F k0 x0 m2) else ((f_X8_byteAt sh F x0 (m2.1 x0 37) m2).bind (fun q8 => nm q8.1 (fun r7 => nm q8.2 (fun m6 => if r7 = (9 : Int32) then (b_X8_next_52 sh F k0 x0 m6) else ((f_X8_byteAt sh F x0 (m6.1 x0 37) m6).bind (fun q12 => nm q12.1 (fun r11 => nm q12.2 (fun m10 => if r11 = (10 : Int32) then (b_X8_next_52 sh F k0 x0 m10) else ((f_X8_byteAt sh F x0 (m10.1 x0 37) m10).bind (fun q16 => nm q16.1 (fun r15 => nm q16.2 (fun m14 => if r15 = (13 : Int32) then (b_X8_next_52 sh F k0 x0 m14) else (nm (gsI m14 x0 40 (m14.1 x0 37)) (fun m18 => (f_X8_byteAt sh F x0 (m18.1 x0 37) m18).bind (fun q21 => nm q21.1 (fun r20 => nm q21.2 (fun m19 => nm (gsI m19 x0 38 0) (fun m22 => if 0 ≤ r20 then ((f_X8_isLetter sh F r20 m22).bind (fun q26 => nm q26.1 (fun r25 => nm q26.2 (fun m24 => if r25 = 0 then ((f_X8_isDigit sh F r20 m24).bind (fun q30 => nm q30.1 (fun r29 => nm q30.2 (fun m28 => if r29 = 0 then (nm (gsI m28 x0 38 3) (fun m32 => nm (gsI m32 x0 39 r20) (fun m33 => nm (gsI m33 x0 37 ((m33.1 x0 37) + (1 : Int32))) (fun m34 => if r20 = (123 : Int32) then (b_X8_next_358 sh F m34) else (if r20 = (125 : Int32) then (b_X8_next_358 sh F m34) else (if r20 = (40 : Int32) then (b_X8_next_358 sh F m34) else (if r20 = (41 : Int32) then (b_X8_next_358 sh F m34) else (if r20 = (61 : Int32) then (b_X8_next_358 sh F m34) else (if r20 = (43 : Int32) then (b_X8_next_358 sh F m34) else (if r20 = (46 : Int32) then (b_X8_next_358 sh F m34) else (if r20 = (44 : Int32) then (b_X8_next_358 sh F m34) else (if r20 = (59 : Int32) then (b_X8_next_358 sh F m34) else ((f_X8_blame sh F x0 1 (m34.1 x0 40) m34).bind (fun q46 => nm q46.1 (fun r45 => nm q46.2 (fun m44 => if r45 = 0 then (some (0, m44)) else (b_X8_next_358 sh F m44))))))))))))))))) else (l_X8_next_208 sh F F x0 m28))))) else (l_X8_next_100 sh F F x0 m24))))) else (some (1, m22))))))))))))))))))))))))
set_option maxRecDepth 100000 in
set_option maxHeartbeats 4000000 in
theorem tb_X8_next_0 {X : gX} {w : gW} {rr : Int32} {rm : gM} (C : gC X w K_X8_next 2 RX8 1) (hr : X.2.2.2.2.2.2.2.2.1.sig.returnType = (some .boolean)) {F : Nat} {k0 : Nat → gM → Option (Int32 × gM)} (hk0 : ∀ (z0 : Nat) (m : gM), k0 z0 m = some (rr, rm) → gV X w 0 0 (gR X w (some (.int rr)) rm) 2 0 [(0, .ref z0)] [] m) {x0 : Nat} {m : gM} (h : b_X8_next_0 w.2.2.2.2.1 F k0 x0 m = some (rr, rm)) : gV X w 0 0 (gR X w (some (.int rr)) rm) 2 0 [(0, .ref x0)] [] m := by
  unfold b_X8_next_0 at h
  refine v_aload_n (pc := 0) C 0 0 rfl rfl rfl ?_
  refine v_aload_n (pc := 1) C 1 0 rfl rfl rfl ?_
  obtain ⟨o1, h⟩ := g_okk h
  refine v_getI (pc := 2) C 2 rfl lf_ScopeGraphModel_177.get (g_oB o1) rfl ?_
  obtain ⟨⟨r3, m2⟩, qm2, h⟩ := g_bd h
  replace h := g_nm (y := m2) (g_nm (y := r3) h rfl) rfl
  refine v_callV (pc := 5) C 3 rfl mf_X8_byteAt clX8 rfl im_X8_byteAt lm_ScopeGraphModel_180 (c_X8_byteAt C.2.2.2.2.2.2.2.2.2.2.2 qm2) (by decide) rfl (g_oB o1) (Nat.le_of_ble_eq_true rfl) ⟨Nat.zero_le _, Nat.zero_le _⟩ rfl ?_
  change gV X w 0 0 (gR X w (some (.int rr)) rm) 2 8 [(0, .ref x0)] [.int r3] m2
  refine v_bipush (pc := 8) C 4 32 rfl (by decide) ?_
  refine v_icmp_eq (pc := 10) C 5 52 rfl (by decide) (fun c5 => ?_) (fun c5 => ?_)
  · replace h := g_ifT c5 h
    refine v_sub [(0, .ref x0)] [0] rfl ?_
    exact tb_X8_next_52 (F := F) C hr hk0 h
  · replace h := g_ifF c5 h
    refine v_aload_n (pc := 13) C 6 0 rfl rfl rfl ?_
    refine v_aload_n (pc := 14) C 7 0 rfl rfl rfl ?_
    refine v_getI (pc := 15) C 8 rfl lf_ScopeGraphModel_177.get (g_oB o1) rfl ?_
    obtain ⟨⟨r7, m6⟩, qm6, h⟩ := g_bd h
    replace h := g_nm (y := m6) (g_nm (y := r7) h rfl) rfl
    refine v_callV (pc := 18) C 9 rfl mf_X8_byteAt clX8 rfl im_X8_byteAt lm_ScopeGraphModel_180 (c_X8_byteAt C.2.2.2.2.2.2.2.2.2.2.2 qm6) (by decide) rfl (g_oB o1) (Nat.le_of_ble_eq_true rfl) ⟨Nat.zero_le _, Nat.zero_le _⟩ rfl ?_
    change gV X w 0 0 (gR X w (some (.int rr)) rm) 2 21 [(0, .ref x0)] [.int r7] m6
    refine v_bipush (pc := 21) C 10 9 rfl (by decide) ?_
    refine v_icmp_eq (pc := 23) C 11 52 rfl (by decide) (fun c9 => ?_) (fun c9 => ?_)
    · replace h := g_ifT c9 h
      refine v_sub [(0, .ref x0)] [0] rfl ?_
      exact tb_X8_next_52 (F := F) C hr hk0 h
    · replace h := g_ifF c9 h
      refine v_aload_n (pc := 26) C 12 0 rfl rfl rfl ?_
      refine v_aload_n (pc := 27) C 13 0 rfl rfl rfl ?_
      refine v_getI (pc := 28) C 14 rfl lf_ScopeGraphModel_177.get (g_oB o1) rfl ?_
      obtain ⟨⟨r11, m10⟩, qm10, h⟩ := g_bd h
      replace h := g_nm (y := m10) (g_nm (y := r11) h rfl) rfl
      refine v_callV (pc := 31) C 15 rfl mf_X8_byteAt clX8 rfl im_X8_byteAt lm_ScopeGraphModel_180 (c_X8_byteAt C.2.2.2.2.2.2.2.2.2.2.2 qm10) (by decide) rfl (g_oB o1) (Nat.le_of_ble_eq_true rfl) ⟨Nat.zero_le _, Nat.zero_le _⟩ rfl ?_
      change gV X w 0 0 (gR X w (some (.int rr)) rm) 2 34 [(0, .ref x0)] [.int r11] m10
      refine v_bipush (pc := 34) C 16 10 rfl (by decide) ?_
      refine v_icmp_eq (pc := 36) C 17 52 rfl (by decide) (fun c13 => ?_) (fun c13 => ?_)
      · replace h := g_ifT c13 h
        refine v_sub [(0, .ref x0)] [0] rfl ?_
        exact tb_X8_next_52 (F := F) C hr hk0 h
      · replace h := g_ifF c13 h
        refine v_aload_n (pc := 39) C 18 0 rfl rfl rfl ?_
        refine v_aload_n (pc := 40) C 19 0 rfl rfl rfl ?_
        refine v_getI (pc := 41) C 20 rfl lf_ScopeGraphModel_177.get (g_oB o1) rfl ?_
        obtain ⟨⟨r15, m14⟩, qm14, h⟩ := g_bd h
        replace h := g_nm (y := m14) (g_nm (y := r15) h rfl) rfl
        refine v_callV (pc := 44) C 21 rfl mf_X8_byteAt clX8 rfl im_X8_byteAt lm_ScopeGraphModel_180 (c_X8_byteAt C.2.2.2.2.2.2.2.2.2.2.2 qm14) (by decide) rfl (g_oB o1) (Nat.le_of_ble_eq_true rfl) ⟨Nat.zero_le _, Nat.zero_le _⟩ rfl ?_
        change gV X w 0 0 (gR X w (some (.int rr)) rm) 2 47 [(0, .ref x0)] [.int r15] m14
        refine v_bipush (pc := 47) C 22 13 rfl (by decide) ?_
        refine v_icmp_ne (pc := 49) C 23 65 rfl (by decide) (fun c17 => ?_) (fun c17 => ?_)
        · replace h := g_ifF c17 h
          refine v_aload_n (pc := 65) C 31 0 rfl rfl rfl ?_
          refine v_aload_n (pc := 66) C 32 0 rfl rfl rfl ?_
          refine v_getI (pc := 67) C 33 rfl lf_ScopeGraphModel_177.get (g_oB o1) rfl ?_
          refine v_putI (pc := 70) C 34 rfl lf_ScopeGraphModel_184 (g_oB o1) rfl ?_
          refine v_topM (fun m18 em18 => ?_)
          replace h := g_nm h em18
          refine v_aload_n (pc := 73) C 35 0 rfl rfl rfl ?_
          refine v_aload_n (pc := 74) C 36 0 rfl rfl rfl ?_
          refine v_getI (pc := 75) C 37 rfl lf_ScopeGraphModel_177.get (g_oB o1) rfl ?_
          obtain ⟨⟨r20, m19⟩, qm19, h⟩ := g_bd h
          replace h := g_nm (y := m19) (g_nm (y := r20) h rfl) rfl
          refine v_callV (pc := 78) C 38 rfl mf_X8_byteAt clX8 rfl im_X8_byteAt lm_ScopeGraphModel_180 (c_X8_byteAt C.2.2.2.2.2.2.2.2.2.2.2 qm19) (by decide) rfl (g_oB o1) (Nat.le_of_ble_eq_true rfl) ⟨Nat.zero_le _, Nat.zero_le _⟩ rfl ?_
          change gV X w 0 0 (gR X w (some (.int rr)) rm) 2 81 [(0, .ref x0)] [.int r20] m19
          refine v_istore_n (pc := 81) (lv' := [(1, .int r20), (0, .ref x0)]) C 39 rfl rfl (by decide) rfl ?_
          refine v_aload_n (pc := 82) C 40 1 rfl rfl rfl ?_
          refine v_iconst (pc := 83) C 41 0 rfl (by decide) ?_
          refine v_putI (pc := 84) C 42 rfl lf_ScopeGraphModel_187 (g_oB o1) rfl ?_
          refine v_topM (fun m22 em22 => ?_)
          replace h := g_nm h em22
          refine v_iload_n (pc := 87) C 43 0 rfl rfl rfl ?_
          refine v_if_ge (pc := 88) C 44 93 rfl (by decide) (fun c23 => ?_) (fun c23 => ?_)
          · replace h := g_ifT c23 h
            refine v_iload_n (pc := 93) C 47 0 rfl rfl rfl ?_
            obtain ⟨⟨r25, m24⟩, qm24, h⟩ := g_bd h
            replace h := g_nm (y := m24) (g_nm (y := r25) h rfl) rfl
            refine v_callS (pc := 94) C 48 rfl mf_X8_isLetter sm_X8_isLetter lm_ScopeGraphModel_190 (c_X8_isLetter C.2.2.2.2.2.2.2.2.2.2.2 qm24) (by decide) rfl (Nat.le_of_ble_eq_true rfl) ⟨Nat.zero_le _, Nat.zero_le _⟩ rfl ?_
            change gV X w 0 0 (gR X w (some (.int rr)) rm) 2 97 [(1, .int r20), (0, .ref x0)] [.int r25] m24
            refine v_if_eq (pc := 97) C 49 201 rfl (by decide) (fun c27 => ?_) (fun c27 => ?_)
            · replace h := g_ifT c27 h
              refine v_iload_n (pc := 201) C 100 0 rfl rfl rfl ?_
              obtain ⟨⟨r29, m28⟩, qm28, h⟩ := g_bd h
              replace h := g_nm (y := m28) (g_nm (y := r29) h rfl) rfl
              refine v_callS (pc := 202) C 101 rfl mf_X8_isDigit sm_X8_isDigit lm_ScopeGraphModel_194 (c_X8_isDigit C.2.2.2.2.2.2.2.2.2.2.2 qm28) (by decide) rfl (Nat.le_of_ble_eq_true rfl) ⟨Nat.zero_le _, Nat.zero_le _⟩ rfl ?_
              change gV X w 0 0 (gR X w (some (.int rr)) rm) 2 205 [(1, .int r20), (0, .ref x0)] [.int r29] m28
              refine v_if_eq (pc := 205) C 102 272 rfl (by decide) (fun c31 => ?_) (fun c31 => ?_)
              · replace h := g_ifT c31 h
                refine v_aload_n (pc := 272) C 136 1 rfl rfl rfl ?_
                refine v_iconst (pc := 273) C 137 3 rfl (by decide) ?_
                refine v_putI (pc := 274) C 138 rfl lf_ScopeGraphModel_187 (g_oB o1) rfl ?_
                refine v_topM (fun m32 em32 => ?_)
                replace h := g_nm h em32
                refine v_aload_n (pc := 277) C 139 1 rfl rfl rfl ?_
                refine v_iload_n (pc := 278) C 140 0 rfl rfl rfl ?_
                refine v_putI (pc := 279) C 141 rfl lf_ScopeGraphModel_208 (g_oB o1) rfl ?_
                refine v_topM (fun m33 em33 => ?_)
                replace h := g_nm h em33
                refine v_aload_n (pc := 282) C 142 1 rfl rfl rfl ?_
                refine v_dup (pc := 283) C 143 rfl rfl ?_
                refine v_getI (pc := 284) C 144 rfl lf_ScopeGraphModel_177.get (g_oB o1) rfl ?_
                refine v_iconst (pc := 287) C 145 1 rfl (by decide) ?_
                refine v_iadd (pc := 288) C 146 rfl ?_
                refine v_putI (pc := 289) C 147 rfl lf_ScopeGraphModel_177 (g_oB o1) rfl ?_
                refine v_topM (fun m34 em34 => ?_)
                replace h := g_nm h em34
                refine v_iload_n (pc := 292) C 148 0 rfl rfl rfl ?_
                refine v_bipush (pc := 293) C 149 123 rfl (by decide) ?_
                refine v_icmp_eq (pc := 295) C 150 358 rfl (by decide) (fun c35 => ?_) (fun c35 => ?_)
                · replace h := g_ifT c35 h
                  refine v_sub [] [] rfl ?_
                  exact tb_X8_next_358 (F := F) C hr h
                · replace h := g_ifF c35 h
                  refine v_iload_n (pc := 298) C 151 0 rfl rfl rfl ?_
                  refine v_bipush (pc := 299) C 152 125 rfl (by decide) ?_
                  refine v_icmp_eq (pc := 301) C 153 358 rfl (by decide) (fun c36 => ?_) (fun c36 => ?_)
                  · replace h := g_ifT c36 h
                    refine v_sub [] [] rfl ?_
                    exact tb_X8_next_358 (F := F) C hr h
                  · replace h := g_ifF c36 h
                    refine v_iload_n (pc := 304) C 154 0 rfl rfl rfl ?_
                    refine v_bipush (pc := 305) C 155 40 rfl (by decide) ?_
                    refine v_icmp_eq (pc := 307) C 156 358 rfl (by decide) (fun c37 => ?_) (fun c37 => ?_)
                    · replace h := g_ifT c37 h
                      refine v_sub [] [] rfl ?_
                      exact tb_X8_next_358 (F := F) C hr h
                    · replace h := g_ifF c37 h
                      refine v_iload_n (pc := 310) C 157 0 rfl rfl rfl ?_
                      refine v_bipush (pc := 311) C 158 41 rfl (by decide) ?_
                      refine v_icmp_eq (pc := 313) C 159 358 rfl (by decide) (fun c38 => ?_) (fun c38 => ?_)
                      · replace h := g_ifT c38 h
                        refine v_sub [] [] rfl ?_
                        exact tb_X8_next_358 (F := F) C hr h
                      · replace h := g_ifF c38 h
                        refine v_iload_n (pc := 316) C 160 0 rfl rfl rfl ?_
                        refine v_bipush (pc := 317) C 161 61 rfl (by decide) ?_
                        refine v_icmp_eq (pc := 319) C 162 358 rfl (by decide) (fun c39 => ?_) (fun c39 => ?_)
                        · replace h := g_ifT c39 h
                          refine v_sub [] [] rfl ?_
                          exact tb_X8_next_358 (F := F) C hr h
                        · replace h := g_ifF c39 h
                          refine v_iload_n (pc := 322) C 163 0 rfl rfl rfl ?_
                          refine v_bipush (pc := 323) C 164 43 rfl (by decide) ?_
                          refine v_icmp_eq (pc := 325) C 165 358 rfl (by decide) (fun c40 => ?_) (fun c40 => ?_)
                          · replace h := g_ifT c40 h
                            refine v_sub [] [] rfl ?_
                            exact tb_X8_next_358 (F := F) C hr h
                          · replace h := g_ifF c40 h
                            refine v_iload_n (pc := 328) C 166 0 rfl rfl rfl ?_
                            refine v_bipush (pc := 329) C 167 46 rfl (by decide) ?_
                            refine v_icmp_eq (pc := 331) C 168 358 rfl (by decide) (fun c41 => ?_) (fun c41 => ?_)
                            · replace h := g_ifT c41 h
                              refine v_sub [] [] rfl ?_
                              exact tb_X8_next_358 (F := F) C hr h
                            · replace h := g_ifF c41 h
                              refine v_iload_n (pc := 334) C 169 0 rfl rfl rfl ?_
                              refine v_bipush (pc := 335) C 170 44 rfl (by decide) ?_
                              refine v_icmp_eq (pc := 337) C 171 358 rfl (by decide) (fun c42 => ?_) (fun c42 => ?_)
                              · replace h := g_ifT c42 h
                                refine v_sub [] [] rfl ?_
                                exact tb_X8_next_358 (F := F) C hr h
                              · replace h := g_ifF c42 h
                                refine v_iload_n (pc := 340) C 172 0 rfl rfl rfl ?_
                                refine v_bipush (pc := 341) C 173 59 rfl (by decide) ?_
                                refine v_icmp_eq (pc := 343) C 174 358 rfl (by decide) (fun c43 => ?_) (fun c43 => ?_)
                                · replace h := g_ifT c43 h
                                  refine v_sub [] [] rfl ?_
                                  exact tb_X8_next_358 (F := F) C hr h
                                · replace h := g_ifF c43 h
                                  refine v_aload_n (pc := 346) C 175 1 rfl rfl rfl ?_
                                  refine v_iconst (pc := 347) C 176 1 rfl (by decide) ?_
                                  refine v_aload_n (pc := 348) C 177 1 rfl rfl rfl ?_
                                  refine v_getI (pc := 349) C 178 rfl lf_ScopeGraphModel_184.get (g_oB o1) rfl ?_
                                  obtain ⟨⟨r45, m44⟩, qm44, h⟩ := g_bd h
                                  replace h := g_nm (y := m44) (g_nm (y := r45) h rfl) rfl
                                  refine v_callV (pc := 352) C 179 rfl mf_X8_blame clX8 rfl im_X8_blame lm_ScopeGraphModel_204 (c_X8_blame C.2.2.2.2.2.2.2.2.2.2.2 qm44) (by decide) rfl (g_oB o1) (Nat.le_of_ble_eq_true rfl) ⟨Nat.zero_le _, Nat.zero_le _⟩ rfl ?_
                                  change gV X w 0 0 (gR X w (some (.int rr)) rm) 2 355 [(1, .int r20), (0, .ref x0)] [.int r45] m44
                                  refine v_if_eq (pc := 355) C 180 362 rfl (by decide) (fun c47 => ?_) (fun c47 => ?_)
                                  · replace h := g_ifT c47 h
                                    refine v_iconst (pc := 362) C 183 0 rfl (by decide) ?_
                                    obtain ⟨rfl, rfl⟩ := g_so h
                                    exact v_zret (pc := 363) C 184 rfl hr (by decide)
                                  · replace h := g_ifF c47 h
                                    refine v_sub [] [] rfl ?_
                                    exact tb_X8_next_358 (F := F) C hr h
              · replace h := g_ifF c31 h
                refine v_sub [(0, .ref x0)] [1] rfl ?_
                exact tl_X8_next_208 (F := F) C hr _ _ _ h
            · replace h := g_ifF c27 h
              refine v_sub [(0, .ref x0)] [1] rfl ?_
              exact tl_X8_next_100 (F := F) C hr _ _ _ h
          · replace h := g_ifF c23 h
            refine v_iconst (pc := 91) C 45 1 rfl (by decide) ?_
            obtain ⟨rfl, rfl⟩ := g_so h
            exact v_zret (pc := 92) C 46 rfl hr (by decide)
        · replace h := g_ifT c17 h
          refine v_sub [(0, .ref x0)] [0] rfl ?_
          exact tb_X8_next_52 (F := F) C hr hk0 h
def l_X8_next_0 (sh : List gS) (F : Nat) : Nat → Nat → gM → Option (Int32 × gM)
  | 0 => fun _ _ => none
  | n + 1 => fun x0 m => b_X8_next_0 sh F (l_X8_next_0 sh F n) x0 m
theorem tl_X8_next_0 {X : gX} {w : gW} {rr : Int32} {rm : gM} (C : gC X w K_X8_next 2 RX8 1) (hr : X.2.2.2.2.2.2.2.2.1.sig.returnType = (some .boolean)) {F : Nat} : ∀ (n : Nat) (x0 : Nat) (m : gM), l_X8_next_0 w.2.2.2.2.1 F n x0 m = some (rr, rm) → gV X w 0 0 (gR X w (some (.int rr)) rm) 2 0 [(0, .ref x0)] [] m := by
  intro n
  induction n with
  | zero => intro x0 m h; cases h
  | succ n ih => intro x0 m h; exact tb_X8_next_0 (F := F) C hr ih h
def f_X8_next (sh : List gS) (F : Nat) (x0 : Nat) (m : gM) : Option (Int32 × gM) := l_X8_next_0 sh F F x0 m
theorem c_X8_next {l : Launch} {w : gW} {rr : Int32} {rm : gM} (hJ : gJok w) {F : Nat} {x0 : Nat} {m : gM} (h : f_X8_next w.2.2.2.2.1 F x0 m = some (rr, rm)) : gMet l 1 yX8_next cX8_next 2 (some .boolean) w [.ref x0] m (some (.int rr)) rm :=
  gMet.of hJ mf_X8_next dk_X8_next (Nat.le_of_ble_eq_true rfl) (fun X _ C hr => tl_X8_next_0 (F := F) C hr F x0 m h)
def f_X8_is (sh : List gS) (F : Nat) (x0 : Nat) (x1 : Int32) (m : gM) : Option (Int32 × gM) :=
  g_if (oB sh x0 8) (if (m.1 x0 38) = (3 : Int32) then (if (m.1 x0 39) = x1 then (some (1, m)) else (some (0, m))) else (some (0, m)))
set_option maxRecDepth 100000 in
set_option maxHeartbeats 4000000 in
theorem tf_X8_is {X : gX} {w : gW} {rr : Int32} {rm : gM} (C : gC X w K_X8_is 2 RX8 0) (hr : X.2.2.2.2.2.2.2.2.1.sig.returnType = (some .boolean)) {F : Nat} {x0 : Nat} {x1 : Int32} {m : gM} (h : f_X8_is w.2.2.2.2.1 F x0 x1 m = some (rr, rm)) : gV X w 0 0 (gR X w (some (.int rr)) rm) 2 0 [(0, .ref x0), (1, .int x1)] [] m := by
  unfold f_X8_is at h
  refine v_aload_n (pc := 0) C 0 0 rfl rfl rfl ?_
  obtain ⟨o1, h⟩ := g_okk h
  refine v_getI (pc := 1) C 1 rfl lf_ScopeGraphModel_187.get (g_oB o1) rfl ?_
  refine v_iconst (pc := 4) C 2 3 rfl (by decide) ?_
  refine v_icmp_ne (pc := 5) C 3 20 rfl (by decide) (fun c2 => ?_) (fun c2 => ?_)
  · replace h := g_ifF c2 h
    refine v_iconst (pc := 20) C 10 0 rfl (by decide) ?_
    obtain ⟨rfl, rfl⟩ := g_so h
    exact v_zret (pc := 21) C 11 rfl hr (by decide)
  · replace h := g_ifT c2 h
    refine v_aload_n (pc := 8) C 4 0 rfl rfl rfl ?_
    refine v_getI (pc := 9) C 5 rfl lf_ScopeGraphModel_208.get (g_oB o1) rfl ?_
    refine v_iload_n (pc := 12) C 6 1 rfl rfl rfl ?_
    refine v_icmp_ne (pc := 13) C 7 20 rfl (by decide) (fun c3 => ?_) (fun c3 => ?_)
    · replace h := g_ifF c3 h
      refine v_iconst (pc := 20) C 10 0 rfl (by decide) ?_
      obtain ⟨rfl, rfl⟩ := g_so h
      exact v_zret (pc := 21) C 11 rfl hr (by decide)
    · replace h := g_ifT c3 h
      refine v_iconst (pc := 16) C 8 1 rfl (by decide) ?_
      refine v_goto (pc := 17) C 9 21 rfl (by decide) ?_
      obtain ⟨rfl, rfl⟩ := g_so h
      exact v_zret (pc := 21) C 11 rfl hr (by decide)
theorem c_X8_is {l : Launch} {w : gW} {rr : Int32} {rm : gM} (hJ : gJok w) {F : Nat} {x0 : Nat} {x1 : Int32} {m : gM} (h : f_X8_is w.2.2.2.2.1 F x0 x1 m = some (rr, rm)) : gMet l 0 yX8_is cX8_is 2 (some .boolean) w [.ref x0, .int x1] m (some (.int rr)) rm :=
  gMet.of hJ mf_X8_is dk_X8_is (Nat.le_of_ble_eq_true rfl) (fun X _ C hr => tf_X8_is (F := F) C hr h)
def f_X8_newScope (sh : List gS) (F : Nat) (x0 : Nat) (x1 : Int32) (x2 : Int32) (x3 : Int32) (m : gM) : Option (Int32 × gM) :=
  g_if (oB sh x0 8) (if (m.1 x0 10) = (64 : Int32) then ((f_X8_blame sh F x0 5 x3 m).bind (fun q12 => nm q12.1 (fun r11 => nm q12.2 (fun m10 => g_if (zB r11) (some (r11, m10)))))) else ((m.2.2 x0 8).bind (fun t3 => g_if (aB sh t3 .int (m.1 x0 10)) (nm (gsI m t3 (m.1 x0 10).toNatClampNeg x1) (fun m5 => (m5.2.2 x0 9).bind (fun t6 => g_if (aB sh t6 .int (m5.1 x0 10)) (nm (gsI m5 t6 (m5.1 x0 10).toNatClampNeg x2) (fun m8 => nm (gsI m8 x0 10 ((m8.1 x0 10) + (1 : Int32))) (fun m9 => some (1, m9))))))))))
set_option maxRecDepth 100000 in
set_option maxHeartbeats 4000000 in
theorem tf_X8_newScope {X : gX} {w : gW} {rr : Int32} {rm : gM} (C : gC X w K_X8_newScope 4 RX8 1) (hr : X.2.2.2.2.2.2.2.2.1.sig.returnType = (some .boolean)) {F : Nat} {x0 : Nat} {x1 : Int32} {x2 : Int32} {x3 : Int32} {m : gM} (h : f_X8_newScope w.2.2.2.2.1 F x0 x1 x2 x3 m = some (rr, rm)) : gV X w 0 0 (gR X w (some (.int rr)) rm) 4 0 [(0, .ref x0), (1, .int x1), (2, .int x2), (3, .int x3)] [] m := by
  unfold f_X8_newScope at h
  refine v_aload_n (pc := 0) C 0 0 rfl rfl rfl ?_
  obtain ⟨o1, h⟩ := g_okk h
  refine v_getI (pc := 1) C 1 rfl lf_ScopeGraphModel_25.get (g_oB o1) rfl ?_
  refine v_bipush (pc := 4) C 2 64 rfl (by decide) ?_
  refine v_icmp_ne (pc := 6) C 3 16 rfl (by decide) (fun c2 => ?_) (fun c2 => ?_)
  · replace h := g_ifF c2 h
    refine v_aload_n (pc := 16) C 9 0 rfl rfl rfl ?_
    obtain ⟨t3, qt3, h⟩ := g_bd h
    refine v_getR (pc := 17) C 10 rfl lf_ScopeGraphModel_19 (g_oB o1) rfl qt3 ?_
    refine v_aload_n (pc := 20) C 11 0 rfl rfl rfl ?_
    refine v_getI (pc := 21) C 12 rfl lf_ScopeGraphModel_25.get (g_oB o1) rfl ?_
    refine v_iload_n (pc := 24) C 13 1 rfl rfl rfl ?_
    obtain ⟨b4, h⟩ := g_okk h
    refine v_iast' (pc := 25) C 14 rfl b4 ?_
    refine v_topM (fun m5 em5 => ?_)
    replace h := g_nm h em5
    refine v_aload_n (pc := 26) C 15 0 rfl rfl rfl ?_
    obtain ⟨t6, qt6, h⟩ := g_bd h
    refine v_getR (pc := 27) C 16 rfl lf_ScopeGraphModel_22 (g_oB o1) rfl qt6 ?_
    refine v_aload_n (pc := 30) C 17 0 rfl rfl rfl ?_
    refine v_getI (pc := 31) C 18 rfl lf_ScopeGraphModel_25.get (g_oB o1) rfl ?_
    refine v_iload_n (pc := 34) C 19 2 rfl rfl rfl ?_
    obtain ⟨b7, h⟩ := g_okk h
    refine v_iast' (pc := 35) C 20 rfl b7 ?_
    refine v_topM (fun m8 em8 => ?_)
    replace h := g_nm h em8
    refine v_aload_n (pc := 36) C 21 0 rfl rfl rfl ?_
    refine v_dup (pc := 37) C 22 rfl rfl ?_
    refine v_getI (pc := 38) C 23 rfl lf_ScopeGraphModel_25.get (g_oB o1) rfl ?_
    refine v_iconst (pc := 41) C 24 1 rfl (by decide) ?_
    refine v_iadd (pc := 42) C 25 rfl ?_
    refine v_putI (pc := 43) C 26 rfl lf_ScopeGraphModel_25 (g_oB o1) rfl ?_
    refine v_topM (fun m9 em9 => ?_)
    replace h := g_nm h em9
    refine v_iconst (pc := 46) C 27 1 rfl (by decide) ?_
    obtain ⟨rfl, rfl⟩ := g_so h
    exact v_zret (pc := 47) C 28 rfl hr (by decide)
  · replace h := g_ifT c2 h
    refine v_aload_n (pc := 9) C 4 0 rfl rfl rfl ?_
    refine v_iconst (pc := 10) C 5 5 rfl (by decide) ?_
    refine v_iload_n (pc := 11) C 6 3 rfl rfl rfl ?_
    obtain ⟨⟨r11, m10⟩, qm10, h⟩ := g_bd h
    replace h := g_nm (y := m10) (g_nm (y := r11) h rfl) rfl
    refine v_callV (pc := 12) C 7 rfl mf_X8_blame clX8 rfl im_X8_blame lm_ScopeGraphModel_204 (c_X8_blame C.2.2.2.2.2.2.2.2.2.2.2 qm10) (by decide) rfl (g_oB o1) (Nat.le_of_ble_eq_true rfl) ⟨Nat.zero_le _, Nat.zero_le _⟩ rfl ?_
    change gV X w 0 0 (gR X w (some (.int rr)) rm) 4 15 [(0, .ref x0), (1, .int x1), (2, .int x2), (3, .int x3)] [.int r11] m10
    obtain ⟨o13, h⟩ := g_okk h
    obtain ⟨rfl, rfl⟩ := g_so h
    exact v_zret (pc := 15) C 8 rfl hr (g_zB o13)
theorem c_X8_newScope {l : Launch} {w : gW} {rr : Int32} {rm : gM} (hJ : gJok w) {F : Nat} {x0 : Nat} {x1 : Int32} {x2 : Int32} {x3 : Int32} {m : gM} (h : f_X8_newScope w.2.2.2.2.1 F x0 x1 x2 x3 m = some (rr, rm)) : gMet l 1 yX8_newScope cX8_newScope 4 (some .boolean) w [.ref x0, .int x1, .int x2, .int x3] m (some (.int rr)) rm :=
  gMet.of hJ mf_X8_newScope dk_X8_newScope (Nat.le_of_ble_eq_true rfl) (fun X _ C hr => tf_X8_newScope (F := F) C hr h)
def f_X8_declare (sh : List gS) (F : Nat) (x0 : Nat) (x1 : Int32) (x2 : Int32) (m : gM) : Option (Int32 × gM) :=
  g_if (oB sh x0 8) (if (m.1 x0 15) = (60 : Int32) then ((f_X8_blame sh F x0 4 (m.1 x0 40) m).bind (fun q18 => nm q18.1 (fun r17 => nm q18.2 (fun m16 => g_if (zB r17) (some (r17, m16)))))) else ((m.2.2 x0 11).bind (fun t3 => g_if (aB sh t3 .int (m.1 x0 15)) (nm (gsI m t3 (m.1 x0 15).toNatClampNeg x1) (fun m5 => (m5.2.2 x0 12).bind (fun t6 => g_if (aB sh t6 .int (m5.1 x0 15)) (nm (gsI m5 t6 (m5.1 x0 15).toNatClampNeg (m5.1 x0 40)) (fun m8 => (m8.2.2 x0 13).bind (fun t9 => g_if (aB sh t9 .int (m8.1 x0 15)) (nm (gsI m8 t9 (m8.1 x0 15).toNatClampNeg (m8.1 x0 41)) (fun m11 => (m11.2.2 x0 14).bind (fun t12 => g_if (aB sh t12 .int (m11.1 x0 15)) (nm (gsI m11 t12 (m11.1 x0 15).toNatClampNeg x2) (fun m14 => nm (gsI m14 x0 15 ((m14.1 x0 15) + (1 : Int32))) (fun m15 => some (1, m15))))))))))))))))
set_option maxRecDepth 100000 in
set_option maxHeartbeats 4000000 in
theorem tf_X8_declare {X : gX} {w : gW} {rr : Int32} {rm : gM} (C : gC X w K_X8_declare 3 RX8 1) (hr : X.2.2.2.2.2.2.2.2.1.sig.returnType = (some .boolean)) {F : Nat} {x0 : Nat} {x1 : Int32} {x2 : Int32} {m : gM} (h : f_X8_declare w.2.2.2.2.1 F x0 x1 x2 m = some (rr, rm)) : gV X w 0 0 (gR X w (some (.int rr)) rm) 3 0 [(0, .ref x0), (1, .int x1), (2, .int x2)] [] m := by
  unfold f_X8_declare at h
  refine v_aload_n (pc := 0) C 0 0 rfl rfl rfl ?_
  obtain ⟨o1, h⟩ := g_okk h
  refine v_getI (pc := 1) C 1 rfl lf_ScopeGraphModel_211.get (g_oB o1) rfl ?_
  refine v_bipush (pc := 4) C 2 60 rfl (by decide) ?_
  refine v_icmp_ne (pc := 6) C 3 19 rfl (by decide) (fun c2 => ?_) (fun c2 => ?_)
  · replace h := g_ifF c2 h
    refine v_aload_n (pc := 19) C 10 0 rfl rfl rfl ?_
    obtain ⟨t3, qt3, h⟩ := g_bd h
    refine v_getR (pc := 20) C 11 rfl lf_ScopeGraphModel_29 (g_oB o1) rfl qt3 ?_
    refine v_aload_n (pc := 23) C 12 0 rfl rfl rfl ?_
    refine v_getI (pc := 24) C 13 rfl lf_ScopeGraphModel_211.get (g_oB o1) rfl ?_
    refine v_iload_n (pc := 27) C 14 1 rfl rfl rfl ?_
    obtain ⟨b4, h⟩ := g_okk h
    refine v_iast' (pc := 28) C 15 rfl b4 ?_
    refine v_topM (fun m5 em5 => ?_)
    replace h := g_nm h em5
    refine v_aload_n (pc := 29) C 16 0 rfl rfl rfl ?_
    obtain ⟨t6, qt6, h⟩ := g_bd h
    refine v_getR (pc := 30) C 17 rfl lf_ScopeGraphModel_32 (g_oB o1) rfl qt6 ?_
    refine v_aload_n (pc := 33) C 18 0 rfl rfl rfl ?_
    refine v_getI (pc := 34) C 19 rfl lf_ScopeGraphModel_211.get (g_oB o1) rfl ?_
    refine v_aload_n (pc := 37) C 20 0 rfl rfl rfl ?_
    refine v_getI (pc := 38) C 21 rfl lf_ScopeGraphModel_184.get (g_oB o1) rfl ?_
    obtain ⟨b7, h⟩ := g_okk h
    refine v_iast' (pc := 41) C 22 rfl b7 ?_
    refine v_topM (fun m8 em8 => ?_)
    replace h := g_nm h em8
    refine v_aload_n (pc := 42) C 23 0 rfl rfl rfl ?_
    obtain ⟨t9, qt9, h⟩ := g_bd h
    refine v_getR (pc := 43) C 24 rfl lf_ScopeGraphModel_35 (g_oB o1) rfl qt9 ?_
    refine v_aload_n (pc := 46) C 25 0 rfl rfl rfl ?_
    refine v_getI (pc := 47) C 26 rfl lf_ScopeGraphModel_211.get (g_oB o1) rfl ?_
    refine v_aload_n (pc := 50) C 27 0 rfl rfl rfl ?_
    refine v_getI (pc := 51) C 28 rfl lf_ScopeGraphModel_197.get (g_oB o1) rfl ?_
    obtain ⟨b10, h⟩ := g_okk h
    refine v_iast' (pc := 54) C 29 rfl b10 ?_
    refine v_topM (fun m11 em11 => ?_)
    replace h := g_nm h em11
    refine v_aload_n (pc := 55) C 30 0 rfl rfl rfl ?_
    obtain ⟨t12, qt12, h⟩ := g_bd h
    refine v_getR (pc := 56) C 31 rfl lf_ScopeGraphModel_38 (g_oB o1) rfl qt12 ?_
    refine v_aload_n (pc := 59) C 32 0 rfl rfl rfl ?_
    refine v_getI (pc := 60) C 33 rfl lf_ScopeGraphModel_211.get (g_oB o1) rfl ?_
    refine v_iload_n (pc := 63) C 34 2 rfl rfl rfl ?_
    obtain ⟨b13, h⟩ := g_okk h
    refine v_iast' (pc := 64) C 35 rfl b13 ?_
    refine v_topM (fun m14 em14 => ?_)
    replace h := g_nm h em14
    refine v_aload_n (pc := 65) C 36 0 rfl rfl rfl ?_
    refine v_dup (pc := 66) C 37 rfl rfl ?_
    refine v_getI (pc := 67) C 38 rfl lf_ScopeGraphModel_211.get (g_oB o1) rfl ?_
    refine v_iconst (pc := 70) C 39 1 rfl (by decide) ?_
    refine v_iadd (pc := 71) C 40 rfl ?_
    refine v_putI (pc := 72) C 41 rfl lf_ScopeGraphModel_211 (g_oB o1) rfl ?_
    refine v_topM (fun m15 em15 => ?_)
    replace h := g_nm h em15
    refine v_iconst (pc := 75) C 42 1 rfl (by decide) ?_
    obtain ⟨rfl, rfl⟩ := g_so h
    exact v_zret (pc := 76) C 43 rfl hr (by decide)
  · replace h := g_ifT c2 h
    refine v_aload_n (pc := 9) C 4 0 rfl rfl rfl ?_
    refine v_iconst (pc := 10) C 5 4 rfl (by decide) ?_
    refine v_aload_n (pc := 11) C 6 0 rfl rfl rfl ?_
    refine v_getI (pc := 12) C 7 rfl lf_ScopeGraphModel_184.get (g_oB o1) rfl ?_
    obtain ⟨⟨r17, m16⟩, qm16, h⟩ := g_bd h
    replace h := g_nm (y := m16) (g_nm (y := r17) h rfl) rfl
    refine v_callV (pc := 15) C 8 rfl mf_X8_blame clX8 rfl im_X8_blame lm_ScopeGraphModel_204 (c_X8_blame C.2.2.2.2.2.2.2.2.2.2.2 qm16) (by decide) rfl (g_oB o1) (Nat.le_of_ble_eq_true rfl) ⟨Nat.zero_le _, Nat.zero_le _⟩ rfl ?_
    change gV X w 0 0 (gR X w (some (.int rr)) rm) 3 18 [(0, .ref x0), (1, .int x1), (2, .int x2)] [.int r17] m16
    obtain ⟨o19, h⟩ := g_okk h
    obtain ⟨rfl, rfl⟩ := g_so h
    exact v_zret (pc := 18) C 9 rfl hr (g_zB o19)
theorem c_X8_declare {l : Launch} {w : gW} {rr : Int32} {rm : gM} (hJ : gJok w) {F : Nat} {x0 : Nat} {x1 : Int32} {x2 : Int32} {m : gM} (h : f_X8_declare w.2.2.2.2.1 F x0 x1 x2 m = some (rr, rm)) : gMet l 1 yX8_declare cX8_declare 3 (some .boolean) w [.ref x0, .int x1, .int x2] m (some (.int rr)) rm :=
  gMet.of hJ mf_X8_declare dk_X8_declare (Nat.le_of_ble_eq_true rfl) (fun X _ C hr => tf_X8_declare (F := F) C hr h)
def f_X8_bracket (sh : List gS) (F : Nat) (x0 : Nat) (m : gM) : Option (Int32 × gM) :=
  g_if (oB sh x0 8) (if (m.1 x0 48) = (20 : Int32) then ((f_X8_blame sh F x0 3 (m.1 x0 40) m).bind (fun q6 => nm q6.1 (fun r5 => nm q6.2 (fun m4 => g_if (zB r5) (some (r5, m4)))))) else (nm (gsI m x0 48 ((m.1 x0 48) + (1 : Int32))) (fun m3 => some (1, m3))))
set_option maxRecDepth 100000 in
set_option maxHeartbeats 4000000 in
theorem tf_X8_bracket {X : gX} {w : gW} {rr : Int32} {rm : gM} (C : gC X w K_X8_bracket 1 RX8 1) (hr : X.2.2.2.2.2.2.2.2.1.sig.returnType = (some .boolean)) {F : Nat} {x0 : Nat} {m : gM} (h : f_X8_bracket w.2.2.2.2.1 F x0 m = some (rr, rm)) : gV X w 0 0 (gR X w (some (.int rr)) rm) 1 0 [(0, .ref x0)] [] m := by
  unfold f_X8_bracket at h
  refine v_aload_n (pc := 0) C 0 0 rfl rfl rfl ?_
  obtain ⟨o1, h⟩ := g_okk h
  refine v_getI (pc := 1) C 1 rfl lf_ScopeGraphModel_214.get (g_oB o1) rfl ?_
  refine v_bipush (pc := 4) C 2 20 rfl (by decide) ?_
  refine v_icmp_ne (pc := 6) C 3 19 rfl (by decide) (fun c2 => ?_) (fun c2 => ?_)
  · replace h := g_ifF c2 h
    refine v_aload_n (pc := 19) C 10 0 rfl rfl rfl ?_
    refine v_dup (pc := 20) C 11 rfl rfl ?_
    refine v_getI (pc := 21) C 12 rfl lf_ScopeGraphModel_214.get (g_oB o1) rfl ?_
    refine v_iconst (pc := 24) C 13 1 rfl (by decide) ?_
    refine v_iadd (pc := 25) C 14 rfl ?_
    refine v_putI (pc := 26) C 15 rfl lf_ScopeGraphModel_214 (g_oB o1) rfl ?_
    refine v_topM (fun m3 em3 => ?_)
    replace h := g_nm h em3
    refine v_iconst (pc := 29) C 16 1 rfl (by decide) ?_
    obtain ⟨rfl, rfl⟩ := g_so h
    exact v_zret (pc := 30) C 17 rfl hr (by decide)
  · replace h := g_ifT c2 h
    refine v_aload_n (pc := 9) C 4 0 rfl rfl rfl ?_
    refine v_iconst (pc := 10) C 5 3 rfl (by decide) ?_
    refine v_aload_n (pc := 11) C 6 0 rfl rfl rfl ?_
    refine v_getI (pc := 12) C 7 rfl lf_ScopeGraphModel_184.get (g_oB o1) rfl ?_
    obtain ⟨⟨r5, m4⟩, qm4, h⟩ := g_bd h
    replace h := g_nm (y := m4) (g_nm (y := r5) h rfl) rfl
    refine v_callV (pc := 15) C 8 rfl mf_X8_blame clX8 rfl im_X8_blame lm_ScopeGraphModel_204 (c_X8_blame C.2.2.2.2.2.2.2.2.2.2.2 qm4) (by decide) rfl (g_oB o1) (Nat.le_of_ble_eq_true rfl) ⟨Nat.zero_le _, Nat.zero_le _⟩ rfl ?_
    change gV X w 0 0 (gR X w (some (.int rr)) rm) 1 18 [(0, .ref x0)] [.int r5] m4
    obtain ⟨o7, h⟩ := g_okk h
    obtain ⟨rfl, rfl⟩ := g_so h
    exact v_zret (pc := 18) C 9 rfl hr (g_zB o7)
theorem c_X8_bracket {l : Launch} {w : gW} {rr : Int32} {rm : gM} (hJ : gJok w) {F : Nat} {x0 : Nat} {m : gM} (h : f_X8_bracket w.2.2.2.2.1 F x0 m = some (rr, rm)) : gMet l 1 yX8_bracket cX8_bracket 1 (some .boolean) w [.ref x0] m (some (.int rr)) rm :=
  gMet.of hJ mf_X8_bracket dk_X8_bracket (Nat.le_of_ble_eq_true rfl) (fun X _ C hr => tf_X8_bracket (F := F) C hr h)
def f_X8_open (sh : List gS) (F : Nat) (x0 : Nat) (x1 : Int32) (m : gM) : Option (gM) :=
  g_if (oB sh x0 8) ((m.2.2 x0 43).bind (fun t2 => g_if (aB sh t2 .int (m.1 x0 47)) (nm (gsI m t2 (m.1 x0 47).toNatClampNeg x1) (fun m4 => (m4.2.2 x0 44).bind (fun t5 => g_if (aB sh t5 .int (m4.1 x0 47)) (nm (gsI m4 t5 (m4.1 x0 47).toNatClampNeg (m4.1 x0 49)) (fun m7 => nm (gsI m7 x0 47 ((m7.1 x0 47) + (1 : Int32))) (fun m8 => some m8))))))))
set_option maxRecDepth 100000 in
set_option maxHeartbeats 4000000 in
theorem tf_X8_open {X : gX} {w : gW} {rm : gM} (C : gC X w K_X8_open 2 RX8 0) (hr : X.2.2.2.2.2.2.2.2.1.sig.returnType = none) {F : Nat} {x0 : Nat} {x1 : Int32} {m : gM} (h : f_X8_open w.2.2.2.2.1 F x0 x1 m = some rm) : gV X w 0 0 (gR X w none rm) 2 0 [(0, .ref x0), (1, .int x1)] [] m := by
  unfold f_X8_open at h
  refine v_aload_n (pc := 0) C 0 0 rfl rfl rfl ?_
  obtain ⟨o1, h⟩ := g_okk h
  obtain ⟨t2, qt2, h⟩ := g_bd h
  refine v_getR (pc := 1) C 1 rfl lf_ScopeGraphModel_89 (g_oB o1) rfl qt2 ?_
  refine v_aload_n (pc := 4) C 2 0 rfl rfl rfl ?_
  refine v_getI (pc := 5) C 3 rfl lf_ScopeGraphModel_217.get (g_oB o1) rfl ?_
  refine v_iload_n (pc := 8) C 4 1 rfl rfl rfl ?_
  obtain ⟨b3, h⟩ := g_okk h
  refine v_iast' (pc := 9) C 5 rfl b3 ?_
  refine v_topM (fun m4 em4 => ?_)
  replace h := g_nm h em4
  refine v_aload_n (pc := 10) C 6 0 rfl rfl rfl ?_
  obtain ⟨t5, qt5, h⟩ := g_bd h
  refine v_getR (pc := 11) C 7 rfl lf_ScopeGraphModel_92 (g_oB o1) rfl qt5 ?_
  refine v_aload_n (pc := 14) C 8 0 rfl rfl rfl ?_
  refine v_getI (pc := 15) C 9 rfl lf_ScopeGraphModel_217.get (g_oB o1) rfl ?_
  refine v_aload_n (pc := 18) C 10 0 rfl rfl rfl ?_
  refine v_getI (pc := 19) C 11 rfl lf_ScopeGraphModel_220.get (g_oB o1) rfl ?_
  obtain ⟨b6, h⟩ := g_okk h
  refine v_iast' (pc := 22) C 12 rfl b6 ?_
  refine v_topM (fun m7 em7 => ?_)
  replace h := g_nm h em7
  refine v_aload_n (pc := 23) C 13 0 rfl rfl rfl ?_
  refine v_dup (pc := 24) C 14 rfl rfl ?_
  refine v_getI (pc := 25) C 15 rfl lf_ScopeGraphModel_217.get (g_oB o1) rfl ?_
  refine v_iconst (pc := 28) C 16 1 rfl (by decide) ?_
  refine v_iadd (pc := 29) C 17 rfl ?_
  refine v_putI (pc := 30) C 18 rfl lf_ScopeGraphModel_217 (g_oB o1) rfl ?_
  refine v_topM (fun m8 em8 => ?_)
  replace h := g_nm h em8
  cases g_s1' h
  exact v_vret (pc := 33) C 19 rfl hr
theorem c_X8_open {l : Launch} {w : gW} {rm : gM} (hJ : gJok w) {F : Nat} {x0 : Nat} {x1 : Int32} {m : gM} (h : f_X8_open w.2.2.2.2.1 F x0 x1 m = some rm) : gMet l 0 yX8_open cX8_open 2 none w [.ref x0, .int x1] m none rm :=
  gMet.of hJ mf_X8_open dk_X8_open (Nat.le_of_ble_eq_true rfl) (fun X _ C hr => tf_X8_open (F := F) C hr h)
def f_X8_odd (sh : List gS) (F : Nat) (x0 : Nat) (m : gM) : Option (Int32 × gM) :=
  g_if (oB sh x0 8) ((f_X8_blame sh F x0 2 (m.1 x0 40) m).bind (fun q4 => nm q4.1 (fun r3 => nm q4.2 (fun m2 => g_if (zB r3) (some (r3, m2))))))
set_option maxRecDepth 100000 in
set_option maxHeartbeats 4000000 in
theorem tf_X8_odd {X : gX} {w : gW} {rr : Int32} {rm : gM} (C : gC X w K_X8_odd 1 RX8 1) (hr : X.2.2.2.2.2.2.2.2.1.sig.returnType = (some .boolean)) {F : Nat} {x0 : Nat} {m : gM} (h : f_X8_odd w.2.2.2.2.1 F x0 m = some (rr, rm)) : gV X w 0 0 (gR X w (some (.int rr)) rm) 1 0 [(0, .ref x0)] [] m := by
  unfold f_X8_odd at h
  refine v_aload_n (pc := 0) C 0 0 rfl rfl rfl ?_
  refine v_iconst (pc := 1) C 1 2 rfl (by decide) ?_
  refine v_aload_n (pc := 2) C 2 0 rfl rfl rfl ?_
  obtain ⟨o1, h⟩ := g_okk h
  refine v_getI (pc := 3) C 3 rfl lf_ScopeGraphModel_184.get (g_oB o1) rfl ?_
  obtain ⟨⟨r3, m2⟩, qm2, h⟩ := g_bd h
  replace h := g_nm (y := m2) (g_nm (y := r3) h rfl) rfl
  refine v_callV (pc := 6) C 4 rfl mf_X8_blame clX8 rfl im_X8_blame lm_ScopeGraphModel_204 (c_X8_blame C.2.2.2.2.2.2.2.2.2.2.2 qm2) (by decide) rfl (g_oB o1) (Nat.le_of_ble_eq_true rfl) ⟨Nat.zero_le _, Nat.zero_le _⟩ rfl ?_
  change gV X w 0 0 (gR X w (some (.int rr)) rm) 1 9 [(0, .ref x0)] [.int r3] m2
  obtain ⟨o5, h⟩ := g_okk h
  obtain ⟨rfl, rfl⟩ := g_so h
  exact v_zret (pc := 9) C 5 rfl hr (g_zB o5)
theorem c_X8_odd {l : Launch} {w : gW} {rr : Int32} {rm : gM} (hJ : gJok w) {F : Nat} {x0 : Nat} {m : gM} (h : f_X8_odd w.2.2.2.2.1 F x0 m = some (rr, rm)) : gMet l 1 yX8_odd cX8_odd 1 (some .boolean) w [.ref x0] m (some (.int rr)) rm :=
  gMet.of hJ mf_X8_odd dk_X8_odd (Nat.le_of_ble_eq_true rfl) (fun X _ C hr => tf_X8_odd (F := F) C hr h)
def b_X8_readLong_92 (sh : List gS) (F : Nat) (k7 : Nat → Int32 → Int32 → gM → Option (Int32 × gM)) (x0 : Nat) (x2 : Int32) (m : gM) : Option (Int32 × gM) :=
  g_if (oB sh x0 8) ((m.2.2 x0 16).bind (fun t2 => g_if (aB sh t2 .int (m.1 x0 20)) (nm (gsI m t2 (m.1 x0 20).toNatClampNeg x2) (fun m4 => (m4.2.2 x0 17).bind (fun t5 => g_if (aB sh t5 .int (m4.1 x0 20)) (nm (gsI m4 t5 (m4.1 x0 20).toNatClampNeg (m4.1 x0 40)) (fun m7 => (m7.2.2 x0 18).bind (fun t8 => g_if (aB sh t8 .int (m7.1 x0 20)) (nm (gsI m7 t8 (m7.1 x0 20).toNatClampNeg (m7.1 x0 41)) (fun m10 => (m10.2.2 x0 19).bind (fun t11 => g_if (aB sh t11 .int (m10.1 x0 20)) (nm (gsI m10 t11 (m10.1 x0 20).toNatClampNeg (-1)) (fun m13 => nm (gsI m13 x0 20 ((m13.1 x0 20) + (1 : Int32))) (fun m14 => nm (gsI m14 x0 50 0) (fun m15 => (f_X8_next sh F x0 m15).bind (fun q18 => nm q18.1 (fun r17 => nm q18.2 (fun m16 => if r17 = 0 then (some (0, m16)) else ((f_X8_is sh F x0 46 m16).bind (fun q22 => nm q22.1 (fun r21 => nm q22.2 (fun m20 => if r21 = 0 then (k7 x0 r21 x2 m20) else ((f_X8_next sh F x0 m20).bind (fun q26 => nm q26.1 (fun r25 => nm q26.2 (fun m24 => if r25 = 0 then (some (0, m24)) else (if (m24.1 x0 38) = (1 : Int32) then (nm (gsI m24 x0 50 1) (fun m29 => k7 x0 r21 x2 m29)) else ((f_X8_odd sh F x0 m24).bind (fun q32 => nm q32.1 (fun r31 => nm q32.2 (fun m30 => g_if (zB r31) (some (r31, m30)))))))))))))))))))))))))))))))))
set_option maxRecDepth 100000 in
set_option maxHeartbeats 4000000 in
theorem tb_X8_readLong_92 {X : gX} {w : gW} {rr : Int32} {rm : gM} (C : gC X w K_X8_readLong 3 RX8 2) (hr : X.2.2.2.2.2.2.2.2.1.sig.returnType = (some .boolean)) {F : Nat} {k7 : Nat → Int32 → Int32 → gM → Option (Int32 × gM)} (hk7 : ∀ (z0 : Nat) (z1 : Int32) (z2 : Int32) (m : gM), k7 z0 z1 z2 m = some (rr, rm) → gV X w 0 0 (gR X w (some (.int rr)) rm) 3 7 [(0, .ref z0), (1, .int z1), (2, .int z2)] [] m) {x0 : Nat} {x2 : Int32} {m : gM} (h : b_X8_readLong_92 w.2.2.2.2.1 F k7 x0 x2 m = some (rr, rm)) : gV X w 0 0 (gR X w (some (.int rr)) rm) 3 92 [(0, .ref x0), (2, .int x2)] [] m := by
  unfold b_X8_readLong_92 at h
  refine v_aload_n (pc := 92) C 52 0 rfl rfl rfl ?_
  obtain ⟨o1, h⟩ := g_okk h
  obtain ⟨t2, qt2, h⟩ := g_bd h
  refine v_getR (pc := 93) C 53 rfl lf_ScopeGraphModel_41 (g_oB o1) rfl qt2 ?_
  refine v_aload_n (pc := 96) C 54 0 rfl rfl rfl ?_
  refine v_getI (pc := 97) C 55 rfl lf_ScopeGraphModel_223.get (g_oB o1) rfl ?_
  refine v_iload_n (pc := 100) C 56 1 rfl rfl rfl ?_
  obtain ⟨b3, h⟩ := g_okk h
  refine v_iast' (pc := 101) C 57 rfl b3 ?_
  refine v_topM (fun m4 em4 => ?_)
  replace h := g_nm h em4
  refine v_aload_n (pc := 102) C 58 0 rfl rfl rfl ?_
  obtain ⟨t5, qt5, h⟩ := g_bd h
  refine v_getR (pc := 103) C 59 rfl lf_ScopeGraphModel_44 (g_oB o1) rfl qt5 ?_
  refine v_aload_n (pc := 106) C 60 0 rfl rfl rfl ?_
  refine v_getI (pc := 107) C 61 rfl lf_ScopeGraphModel_223.get (g_oB o1) rfl ?_
  refine v_aload_n (pc := 110) C 62 0 rfl rfl rfl ?_
  refine v_getI (pc := 111) C 63 rfl lf_ScopeGraphModel_184.get (g_oB o1) rfl ?_
  obtain ⟨b6, h⟩ := g_okk h
  refine v_iast' (pc := 114) C 64 rfl b6 ?_
  refine v_topM (fun m7 em7 => ?_)
  replace h := g_nm h em7
  refine v_aload_n (pc := 115) C 65 0 rfl rfl rfl ?_
  obtain ⟨t8, qt8, h⟩ := g_bd h
  refine v_getR (pc := 116) C 66 rfl lf_ScopeGraphModel_47 (g_oB o1) rfl qt8 ?_
  refine v_aload_n (pc := 119) C 67 0 rfl rfl rfl ?_
  refine v_getI (pc := 120) C 68 rfl lf_ScopeGraphModel_223.get (g_oB o1) rfl ?_
  refine v_aload_n (pc := 123) C 69 0 rfl rfl rfl ?_
  refine v_getI (pc := 124) C 70 rfl lf_ScopeGraphModel_197.get (g_oB o1) rfl ?_
  obtain ⟨b9, h⟩ := g_okk h
  refine v_iast' (pc := 127) C 71 rfl b9 ?_
  refine v_topM (fun m10 em10 => ?_)
  replace h := g_nm h em10
  refine v_aload_n (pc := 128) C 72 0 rfl rfl rfl ?_
  obtain ⟨t11, qt11, h⟩ := g_bd h
  refine v_getR (pc := 129) C 73 rfl lf_ScopeGraphModel_50 (g_oB o1) rfl qt11 ?_
  refine v_aload_n (pc := 132) C 74 0 rfl rfl rfl ?_
  refine v_getI (pc := 133) C 75 rfl lf_ScopeGraphModel_223.get (g_oB o1) rfl ?_
  refine v_iconst (pc := 136) C 76 (-1) rfl (by decide) ?_
  obtain ⟨b12, h⟩ := g_okk h
  refine v_iast' (pc := 137) C 77 rfl b12 ?_
  refine v_topM (fun m13 em13 => ?_)
  replace h := g_nm h em13
  refine v_aload_n (pc := 138) C 78 0 rfl rfl rfl ?_
  refine v_dup (pc := 139) C 79 rfl rfl ?_
  refine v_getI (pc := 140) C 80 rfl lf_ScopeGraphModel_223.get (g_oB o1) rfl ?_
  refine v_iconst (pc := 143) C 81 1 rfl (by decide) ?_
  refine v_iadd (pc := 144) C 82 rfl ?_
  refine v_putI (pc := 145) C 83 rfl lf_ScopeGraphModel_223 (g_oB o1) rfl ?_
  refine v_topM (fun m14 em14 => ?_)
  replace h := g_nm h em14
  refine v_aload_n (pc := 148) C 84 0 rfl rfl rfl ?_
  refine v_iconst (pc := 149) C 85 0 rfl (by decide) ?_
  refine v_putZ (pc := 150) C 86 rfl lf_ScopeGraphModel_264 (g_oB o1) rfl (by decide) ?_
  refine v_topM (fun m15 em15 => ?_)
  replace h := g_nm h em15
  refine v_aload_n (pc := 153) C 87 0 rfl rfl rfl ?_
  obtain ⟨⟨r17, m16⟩, qm16, h⟩ := g_bd h
  replace h := g_nm (y := m16) (g_nm (y := r17) h rfl) rfl
  refine v_callV (pc := 154) C 88 rfl mf_X8_next clX8 rfl im_X8_next lm_ScopeGraphModel_229 (c_X8_next C.2.2.2.2.2.2.2.2.2.2.2 qm16) (by decide) rfl (g_oB o1) (Nat.le_of_ble_eq_true rfl) ⟨Nat.zero_le _, Nat.zero_le _⟩ rfl ?_
  change gV X w 0 0 (gR X w (some (.int rr)) rm) 3 157 [(0, .ref x0), (2, .int x2)] [.int r17] m16
  refine v_if_ne (pc := 157) C 89 162 rfl (by decide) (fun c19 => ?_) (fun c19 => ?_)
  · replace h := g_ifF c19 h
    refine v_aload_n (pc := 162) C 92 0 rfl rfl rfl ?_
    refine v_bipush (pc := 163) C 93 46 rfl (by decide) ?_
    obtain ⟨⟨r21, m20⟩, qm20, h⟩ := g_bd h
    replace h := g_nm (y := m20) (g_nm (y := r21) h rfl) rfl
    refine v_callV (pc := 165) C 94 rfl mf_X8_is clX8 rfl im_X8_is lm_ScopeGraphModel_249 (c_X8_is C.2.2.2.2.2.2.2.2.2.2.2 qm20) (by decide) rfl (g_oB o1) (Nat.le_of_ble_eq_true rfl) ⟨Nat.zero_le _, Nat.zero_le _⟩ rfl ?_
    change gV X w 0 0 (gR X w (some (.int rr)) rm) 3 168 [(0, .ref x0), (2, .int x2)] [.int r21] m20
    refine v_istore_n (pc := 168) (lv' := [(1, .int r21), (0, .ref x0), (2, .int x2)]) C 95 rfl rfl (by decide) rfl ?_
    refine v_iload_n (pc := 169) C 96 0 rfl rfl rfl ?_
    refine v_if_eq (pc := 170) C 97 7 rfl (by decide) (fun c23 => ?_) (fun c23 => ?_)
    · replace h := g_ifT c23 h
      refine v_sub [(0, .ref x0), (1, .int r21), (2, .int x2)] [1, 0, 2] rfl ?_
      exact hk7 _ _ _ _ h
    · replace h := g_ifF c23 h
      refine v_aload_n (pc := 173) C 98 1 rfl rfl rfl ?_
      obtain ⟨⟨r25, m24⟩, qm24, h⟩ := g_bd h
      replace h := g_nm (y := m24) (g_nm (y := r25) h rfl) rfl
      refine v_callV (pc := 174) C 99 rfl mf_X8_next clX8 rfl im_X8_next lm_ScopeGraphModel_229 (c_X8_next C.2.2.2.2.2.2.2.2.2.2.2 qm24) (by decide) rfl (g_oB o1) (Nat.le_of_ble_eq_true rfl) ⟨Nat.zero_le _, Nat.zero_le _⟩ rfl ?_
      change gV X w 0 0 (gR X w (some (.int rr)) rm) 3 177 [(1, .int r21), (0, .ref x0), (2, .int x2)] [.int r25] m24
      refine v_if_ne (pc := 177) C 100 182 rfl (by decide) (fun c27 => ?_) (fun c27 => ?_)
      · replace h := g_ifF c27 h
        refine v_aload_n (pc := 182) C 103 1 rfl rfl rfl ?_
        refine v_getI (pc := 183) C 104 rfl lf_ScopeGraphModel_187.get (g_oB o1) rfl ?_
        refine v_iconst (pc := 186) C 105 1 rfl (by decide) ?_
        refine v_icmp_eq (pc := 187) C 106 195 rfl (by decide) (fun c28 => ?_) (fun c28 => ?_)
        · replace h := g_ifT c28 h
          refine v_aload_n (pc := 195) C 110 1 rfl rfl rfl ?_
          refine v_iconst (pc := 196) C 111 1 rfl (by decide) ?_
          refine v_putZ (pc := 197) C 112 rfl lf_ScopeGraphModel_264 (g_oB o1) rfl (by decide) ?_
          refine v_topM (fun m29 em29 => ?_)
          replace h := g_nm h em29
          refine v_goto (pc := 200) C 113 7 rfl (by decide) ?_
          refine v_sub [(0, .ref x0), (1, .int r21), (2, .int x2)] [1, 0, 2] rfl ?_
          exact hk7 _ _ _ _ h
        · replace h := g_ifF c28 h
          refine v_aload_n (pc := 190) C 107 1 rfl rfl rfl ?_
          obtain ⟨⟨r31, m30⟩, qm30, h⟩ := g_bd h
          replace h := g_nm (y := m30) (g_nm (y := r31) h rfl) rfl
          refine v_callV (pc := 191) C 108 rfl mf_X8_odd clX8 rfl im_X8_odd lm_ScopeGraphModel_239 (c_X8_odd C.2.2.2.2.2.2.2.2.2.2.2 qm30) (by decide) rfl (g_oB o1) (Nat.le_of_ble_eq_true rfl) ⟨Nat.zero_le _, Nat.zero_le _⟩ rfl ?_
          change gV X w 0 0 (gR X w (some (.int rr)) rm) 3 194 [(1, .int r21), (0, .ref x0), (2, .int x2)] [.int r31] m30
          obtain ⟨o33, h⟩ := g_okk h
          obtain ⟨rfl, rfl⟩ := g_so h
          exact v_zret (pc := 194) C 109 rfl hr (g_zB o33)
      · replace h := g_ifT c27 h
        refine v_iconst (pc := 180) C 101 0 rfl (by decide) ?_
        obtain ⟨rfl, rfl⟩ := g_so h
        exact v_zret (pc := 181) C 102 rfl hr (by decide)
  · replace h := g_ifT c19 h
    refine v_iconst (pc := 160) C 90 0 rfl (by decide) ?_
    obtain ⟨rfl, rfl⟩ := g_so h
    exact v_zret (pc := 161) C 91 rfl hr (by decide)
def b_X8_readLong_52 (sh : List gS) (F : Nat) (k7 : Nat → Int32 → Int32 → gM → Option (Int32 × gM)) (x0 : Nat) (m : gM) : Option (Int32 × gM) :=
  g_if (oB sh x0 8) ((f_X8_newScope sh F x0 (-1) 6 (m.1 x0 40) m).bind (fun q4 => nm q4.1 (fun r3 => nm q4.2 (fun m2 => if r3 = 0 then (some (0, m2)) else ((m2.2.2 x0 19).bind (fun t6 => g_if (aB sh t6 .int ((m2.1 x0 20) - (1 : Int32))) (nm (gsI m2 t6 ((m2.1 x0 20) - (1 : Int32)).toNatClampNeg ((m2.1 x0 10) - (1 : Int32))) (fun m8 => nm ((m8.1 x0 10) - (1 : Int32)) (fun v9 => b_X8_readLong_92 sh F k7 x0 v9 m8)))))))))
set_option maxRecDepth 100000 in
set_option maxHeartbeats 4000000 in
theorem tb_X8_readLong_52 {X : gX} {w : gW} {rr : Int32} {rm : gM} (C : gC X w K_X8_readLong 3 RX8 2) (hr : X.2.2.2.2.2.2.2.2.1.sig.returnType = (some .boolean)) {F : Nat} {k7 : Nat → Int32 → Int32 → gM → Option (Int32 × gM)} (hk7 : ∀ (z0 : Nat) (z1 : Int32) (z2 : Int32) (m : gM), k7 z0 z1 z2 m = some (rr, rm) → gV X w 0 0 (gR X w (some (.int rr)) rm) 3 7 [(0, .ref z0), (1, .int z1), (2, .int z2)] [] m) {x0 : Nat} {m : gM} (h : b_X8_readLong_52 w.2.2.2.2.1 F k7 x0 m = some (rr, rm)) : gV X w 0 0 (gR X w (some (.int rr)) rm) 3 52 [(0, .ref x0)] [] m := by
  unfold b_X8_readLong_52 at h
  refine v_aload_n (pc := 52) C 27 0 rfl rfl rfl ?_
  refine v_iconst (pc := 53) C 28 (-1) rfl (by decide) ?_
  refine v_bipush (pc := 54) C 29 6 rfl (by decide) ?_
  refine v_aload_n (pc := 56) C 30 0 rfl rfl rfl ?_
  obtain ⟨o1, h⟩ := g_okk h
  refine v_getI (pc := 57) C 31 rfl lf_ScopeGraphModel_184.get (g_oB o1) rfl ?_
  obtain ⟨⟨r3, m2⟩, qm2, h⟩ := g_bd h
  replace h := g_nm (y := m2) (g_nm (y := r3) h rfl) rfl
  refine v_callV (pc := 60) C 32 rfl mf_X8_newScope clX8 rfl im_X8_newScope lm_ScopeGraphModel_245 (c_X8_newScope C.2.2.2.2.2.2.2.2.2.2.2 qm2) (by decide) rfl (g_oB o1) (Nat.le_of_ble_eq_true rfl) ⟨Nat.zero_le _, Nat.zero_le _⟩ rfl ?_
  change gV X w 0 0 (gR X w (some (.int rr)) rm) 3 63 [(0, .ref x0)] [.int r3] m2
  refine v_if_ne (pc := 63) C 33 68 rfl (by decide) (fun c5 => ?_) (fun c5 => ?_)
  · replace h := g_ifF c5 h
    refine v_aload_n (pc := 68) C 36 0 rfl rfl rfl ?_
    obtain ⟨t6, qt6, h⟩ := g_bd h
    refine v_getR (pc := 69) C 37 rfl lf_ScopeGraphModel_50 (g_oB o1) rfl qt6 ?_
    refine v_aload_n (pc := 72) C 38 0 rfl rfl rfl ?_
    refine v_getI (pc := 73) C 39 rfl lf_ScopeGraphModel_223.get (g_oB o1) rfl ?_
    refine v_iconst (pc := 76) C 40 1 rfl (by decide) ?_
    refine v_isub (pc := 77) C 41 rfl ?_
    refine v_aload_n (pc := 78) C 42 0 rfl rfl rfl ?_
    refine v_getI (pc := 79) C 43 rfl lf_ScopeGraphModel_25.get (g_oB o1) rfl ?_
    refine v_iconst (pc := 82) C 44 1 rfl (by decide) ?_
    refine v_isub (pc := 83) C 45 rfl ?_
    obtain ⟨b7, h⟩ := g_okk h
    refine v_iast' (pc := 84) C 46 rfl b7 ?_
    refine v_topM (fun m8 em8 => ?_)
    replace h := g_nm h em8
    refine v_aload_n (pc := 85) C 47 0 rfl rfl rfl ?_
    refine v_getI (pc := 86) C 48 rfl lf_ScopeGraphModel_25.get (g_oB o1) rfl ?_
    refine v_iconst (pc := 89) C 49 1 rfl (by decide) ?_
    refine v_isub (pc := 90) C 50 rfl ?_
    refine v_topI (fun v9 ev9 => ?_)
    replace h := g_nm h ev9
    refine v_istore_n (pc := 91) (lv' := [(2, .int v9), (0, .ref x0)]) C 51 rfl rfl (by decide) rfl ?_
    refine v_sub [(0, .ref x0), (2, .int v9)] [1, 0] rfl ?_
    exact tb_X8_readLong_92 (F := F) C hr hk7 h
  · replace h := g_ifT c5 h
    refine v_iconst (pc := 66) C 34 0 rfl (by decide) ?_
    obtain ⟨rfl, rfl⟩ := g_so h
    exact v_zret (pc := 67) C 35 rfl hr (by decide)
def b_X8_readLong_7 (sh : List gS) (F : Nat) (k7 : Nat → Int32 → Int32 → gM → Option (Int32 × gM)) (x0 : Nat) (x1 : Int32) (x2 : Int32) (m : gM) : Option (Int32 × gM) :=
  if x1 = 0 then (some (1, m)) else (g_if (oB sh x0 8) (if (m.1 x0 20) = (100 : Int32) then ((f_X8_blame sh F x0 4 (m.1 x0 40) m).bind (fun q9 => nm q9.1 (fun r8 => nm q9.2 (fun m7 => g_if (zB r8) (some (r8, m7)))))) else (if x2 = (m.1 x0 49) then (if (m.1 x0 20) ≤ 0 then (b_X8_readLong_92 sh F k7 x0 x2 m) else (if (m.1 x0 50) = 0 then (b_X8_readLong_92 sh F k7 x0 x2 m) else (b_X8_readLong_52 sh F k7 x0 m))) else (b_X8_readLong_52 sh F k7 x0 m))))
set_option maxRecDepth 100000 in
set_option maxHeartbeats 4000000 in
theorem tb_X8_readLong_7 {X : gX} {w : gW} {rr : Int32} {rm : gM} (C : gC X w K_X8_readLong 3 RX8 2) (hr : X.2.2.2.2.2.2.2.2.1.sig.returnType = (some .boolean)) {F : Nat} {k7 : Nat → Int32 → Int32 → gM → Option (Int32 × gM)} (hk7 : ∀ (z0 : Nat) (z1 : Int32) (z2 : Int32) (m : gM), k7 z0 z1 z2 m = some (rr, rm) → gV X w 0 0 (gR X w (some (.int rr)) rm) 3 7 [(0, .ref z0), (1, .int z1), (2, .int z2)] [] m) {x0 : Nat} {x1 : Int32} {x2 : Int32} {m : gM} (h : b_X8_readLong_7 w.2.2.2.2.1 F k7 x0 x1 x2 m = some (rr, rm)) : gV X w 0 0 (gR X w (some (.int rr)) rm) 3 7 [(0, .ref x0), (1, .int x1), (2, .int x2)] [] m := by
  unfold b_X8_readLong_7 at h
  refine v_iload_n (pc := 7) C 5 1 rfl rfl rfl ?_
  refine v_if_eq (pc := 8) C 6 203 rfl (by decide) (fun c1 => ?_) (fun c1 => ?_)
  · replace h := g_ifT c1 h
    refine v_iconst (pc := 203) C 114 1 rfl (by decide) ?_
    obtain ⟨rfl, rfl⟩ := g_so h
    exact v_zret (pc := 204) C 115 rfl hr (by decide)
  · replace h := g_ifF c1 h
    refine v_aload_n (pc := 11) C 7 0 rfl rfl rfl ?_
    obtain ⟨o2, h⟩ := g_okk h
    refine v_getI (pc := 12) C 8 rfl lf_ScopeGraphModel_223.get (g_oB o2) rfl ?_
    refine v_bipush (pc := 15) C 9 100 rfl (by decide) ?_
    refine v_icmp_ne (pc := 17) C 10 30 rfl (by decide) (fun c3 => ?_) (fun c3 => ?_)
    · replace h := g_ifF c3 h
      refine v_iload_n (pc := 30) C 17 2 rfl rfl rfl ?_
      refine v_aload_n (pc := 31) C 18 0 rfl rfl rfl ?_
      refine v_getI (pc := 32) C 19 rfl lf_ScopeGraphModel_220.get (g_oB o2) rfl ?_
      refine v_icmp_ne (pc := 35) C 20 52 rfl (by decide) (fun c4 => ?_) (fun c4 => ?_)
      · replace h := g_ifF c4 h
        refine v_sub [(0, .ref x0)] [0] rfl ?_
        exact tb_X8_readLong_52 (F := F) C hr hk7 h
      · replace h := g_ifT c4 h
        refine v_aload_n (pc := 38) C 21 0 rfl rfl rfl ?_
        refine v_getI (pc := 39) C 22 rfl lf_ScopeGraphModel_223.get (g_oB o2) rfl ?_
        refine v_if_le (pc := 42) C 23 92 rfl (by decide) (fun c5 => ?_) (fun c5 => ?_)
        · replace h := g_ifT c5 h
          refine v_sub [(0, .ref x0), (2, .int x2)] [0, 2] rfl ?_
          exact tb_X8_readLong_92 (F := F) C hr hk7 h
        · replace h := g_ifF c5 h
          refine v_aload_n (pc := 45) C 24 0 rfl rfl rfl ?_
          refine v_getI (pc := 46) C 25 rfl lf_ScopeGraphModel_264.get (g_oB o2) rfl ?_
          refine v_if_eq (pc := 49) C 26 92 rfl (by decide) (fun c6 => ?_) (fun c6 => ?_)
          · replace h := g_ifT c6 h
            refine v_sub [(0, .ref x0), (2, .int x2)] [0, 2] rfl ?_
            exact tb_X8_readLong_92 (F := F) C hr hk7 h
          · replace h := g_ifF c6 h
            refine v_sub [(0, .ref x0)] [0] rfl ?_
            exact tb_X8_readLong_52 (F := F) C hr hk7 h
    · replace h := g_ifT c3 h
      refine v_aload_n (pc := 20) C 11 0 rfl rfl rfl ?_
      refine v_iconst (pc := 21) C 12 4 rfl (by decide) ?_
      refine v_aload_n (pc := 22) C 13 0 rfl rfl rfl ?_
      refine v_getI (pc := 23) C 14 rfl lf_ScopeGraphModel_184.get (g_oB o2) rfl ?_
      obtain ⟨⟨r8, m7⟩, qm7, h⟩ := g_bd h
      replace h := g_nm (y := m7) (g_nm (y := r8) h rfl) rfl
      refine v_callV (pc := 26) C 15 rfl mf_X8_blame clX8 rfl im_X8_blame lm_ScopeGraphModel_204 (c_X8_blame C.2.2.2.2.2.2.2.2.2.2.2 qm7) (by decide) rfl (g_oB o2) (Nat.le_of_ble_eq_true rfl) ⟨Nat.zero_le _, Nat.zero_le _⟩ rfl ?_
      change gV X w 0 0 (gR X w (some (.int rr)) rm) 3 29 [(0, .ref x0), (1, .int x1), (2, .int x2)] [.int r8] m7
      obtain ⟨o10, h⟩ := g_okk h
      obtain ⟨rfl, rfl⟩ := g_so h
      exact v_zret (pc := 29) C 16 rfl hr (g_zB o10)
def l_X8_readLong_7 (sh : List gS) (F : Nat) : Nat → Nat → Int32 → Int32 → gM → Option (Int32 × gM)
  | 0 => fun _ _ _ _ => none
  | n + 1 => fun x0 x1 x2 m => b_X8_readLong_7 sh F (l_X8_readLong_7 sh F n) x0 x1 x2 m
theorem tl_X8_readLong_7 {X : gX} {w : gW} {rr : Int32} {rm : gM} (C : gC X w K_X8_readLong 3 RX8 2) (hr : X.2.2.2.2.2.2.2.2.1.sig.returnType = (some .boolean)) {F : Nat} : ∀ (n : Nat) (x0 : Nat) (x1 : Int32) (x2 : Int32) (m : gM), l_X8_readLong_7 w.2.2.2.2.1 F n x0 x1 x2 m = some (rr, rm) → gV X w 0 0 (gR X w (some (.int rr)) rm) 3 7 [(0, .ref x0), (1, .int x1), (2, .int x2)] [] m := by
  intro n
  induction n with
  | zero => intro x0 x1 x2 m h; cases h
  | succ n ih => intro x0 x1 x2 m h; exact tb_X8_readLong_7 (F := F) C hr ih h
def f_X8_readLong (sh : List gS) (F : Nat) (x0 : Nat) (m : gM) : Option (Int32 × gM) :=
  g_if (oB sh x0 8) (nm (m.1 x0 49) (fun v2 => l_X8_readLong_7 sh F F x0 1 v2 m))
set_option maxRecDepth 100000 in
set_option maxHeartbeats 4000000 in
theorem tf_X8_readLong {X : gX} {w : gW} {rr : Int32} {rm : gM} (C : gC X w K_X8_readLong 3 RX8 2) (hr : X.2.2.2.2.2.2.2.2.1.sig.returnType = (some .boolean)) {F : Nat} {x0 : Nat} {m : gM} (h : f_X8_readLong w.2.2.2.2.1 F x0 m = some (rr, rm)) : gV X w 0 0 (gR X w (some (.int rr)) rm) 3 0 [(0, .ref x0)] [] m := by
  unfold f_X8_readLong at h
  refine v_iconst (pc := 0) C 0 1 rfl (by decide) ?_
  refine v_istore_n (pc := 1) (lv' := [(1, .int 1), (0, .ref x0)]) C 1 rfl rfl (by decide) rfl ?_
  refine v_aload_n (pc := 2) C 2 1 rfl rfl rfl ?_
  obtain ⟨o1, h⟩ := g_okk h
  refine v_getI (pc := 3) C 3 rfl lf_ScopeGraphModel_220.get (g_oB o1) rfl ?_
  refine v_topI (fun v2 ev2 => ?_)
  replace h := g_nm h ev2
  refine v_istore_n (pc := 6) (lv' := [(2, .int v2), (1, .int 1), (0, .ref x0)]) C 4 rfl rfl (by decide) rfl ?_
  refine v_sub [(0, .ref x0), (1, .int 1), (2, .int v2)] [2, 1, 0] rfl ?_
  exact tl_X8_readLong_7 (F := F) C hr _ _ _ _ _ h
theorem c_X8_readLong {l : Launch} {w : gW} {rr : Int32} {rm : gM} (hJ : gJok w) {F : Nat} {x0 : Nat} {m : gM} (h : f_X8_readLong w.2.2.2.2.1 F x0 m = some (rr, rm)) : gMet l 2 yX8_readLong cX8_readLong 3 (some .boolean) w [.ref x0] m (some (.int rr)) rm :=
  gMet.of hJ mf_X8_readLong dk_X8_readLong (Nat.le_of_ble_eq_true rfl) (fun X _ C hr => tf_X8_readLong (F := F) C hr h)
def b_X8_dec_363 (sh : List gS) (F : Nat) (x0 : Nat) (m : gM) : Option (Int32 × gM) :=
  g_if (oB sh x0 8) ((f_X8_odd sh F x0 m).bind (fun q4 => nm q4.1 (fun r3 => nm q4.2 (fun m2 => g_if (zB r3) (some (r3, m2))))))
set_option maxRecDepth 100000 in
set_option maxHeartbeats 4000000 in
theorem tb_X8_dec_363 {X : gX} {w : gW} {rr : Int32} {rm : gM} (C : gC X w K_X8_dec 1 RX8 3) (hr : X.2.2.2.2.2.2.2.2.1.sig.returnType = (some .boolean)) {F : Nat} {x0 : Nat} {m : gM} (h : b_X8_dec_363 w.2.2.2.2.1 F x0 m = some (rr, rm)) : gV X w 0 0 (gR X w (some (.int rr)) rm) 1 363 [(0, .ref x0)] [] m := by
  unfold b_X8_dec_363 at h
  refine v_aload_n (pc := 363) C 191 0 rfl rfl rfl ?_
  obtain ⟨o1, h⟩ := g_okk h
  obtain ⟨⟨r3, m2⟩, qm2, h⟩ := g_bd h
  replace h := g_nm (y := m2) (g_nm (y := r3) h rfl) rfl
  refine v_callV (pc := 364) C 192 rfl mf_X8_odd clX8 rfl im_X8_odd lm_ScopeGraphModel_239 (c_X8_odd C.2.2.2.2.2.2.2.2.2.2.2 qm2) (by decide) rfl (g_oB o1) (Nat.le_of_ble_eq_true rfl) ⟨Nat.zero_le _, Nat.zero_le _⟩ rfl ?_
  change gV X w 0 0 (gR X w (some (.int rr)) rm) 1 367 [(0, .ref x0)] [.int r3] m2
  obtain ⟨o5, h⟩ := g_okk h
  obtain ⟨rfl, rfl⟩ := g_so h
  exact v_zret (pc := 367) C 193 rfl hr (g_zB o5)
def b_X8_dec_24 (sh : List gS) (F : Nat) (x0 : Nat) (m : gM) : Option (Int32 × gM) :=
  g_if (oB sh x0 8) (if (m.1 x0 7) ≤ 0 then ((f_X8_odd sh F x0 m).bind (fun q5 => nm q5.1 (fun r4 => nm q5.2 (fun m3 => g_if (zB r4) (some (r4, m3)))))) else (some (0, m)))
set_option maxRecDepth 100000 in
set_option maxHeartbeats 4000000 in
theorem tb_X8_dec_24 {X : gX} {w : gW} {rr : Int32} {rm : gM} (C : gC X w K_X8_dec 1 RX8 3) (hr : X.2.2.2.2.2.2.2.2.1.sig.returnType = (some .boolean)) {F : Nat} {x0 : Nat} {m : gM} (h : b_X8_dec_24 w.2.2.2.2.1 F x0 m = some (rr, rm)) : gV X w 0 0 (gR X w (some (.int rr)) rm) 1 24 [(0, .ref x0)] [] m := by
  unfold b_X8_dec_24 at h
  refine v_aload_n (pc := 24) C 11 0 rfl rfl rfl ?_
  obtain ⟨o1, h⟩ := g_okk h
  refine v_getI (pc := 25) C 12 rfl lf_ScopeGraphModel_168.get (g_oB o1) rfl ?_
  refine v_if_le (pc := 28) C 13 35 rfl (by decide) (fun c2 => ?_) (fun c2 => ?_)
  · replace h := g_ifT c2 h
    refine v_aload_n (pc := 35) C 16 0 rfl rfl rfl ?_
    obtain ⟨⟨r4, m3⟩, qm3, h⟩ := g_bd h
    replace h := g_nm (y := m3) (g_nm (y := r4) h rfl) rfl
    refine v_callV (pc := 36) C 17 rfl mf_X8_odd clX8 rfl im_X8_odd lm_ScopeGraphModel_239 (c_X8_odd C.2.2.2.2.2.2.2.2.2.2.2 qm3) (by decide) rfl (g_oB o1) (Nat.le_of_ble_eq_true rfl) ⟨Nat.zero_le _, Nat.zero_le _⟩ rfl ?_
    change gV X w 0 0 (gR X w (some (.int rr)) rm) 1 39 [(0, .ref x0)] [.int r4] m3
    obtain ⟨o6, h⟩ := g_okk h
    obtain ⟨rfl, rfl⟩ := g_so h
    exact v_zret (pc := 39) C 18 rfl hr (g_zB o6)
  · replace h := g_ifF c2 h
    refine v_iconst (pc := 31) C 14 0 rfl (by decide) ?_
    refine v_goto (pc := 32) C 15 39 rfl (by decide) ?_
    obtain ⟨rfl, rfl⟩ := g_so h
    exact v_zret (pc := 39) C 18 rfl hr (by decide)
def f_X8_dec (sh : List gS) (F : Nat) (x0 : Nat) (m : gM) : Option (Int32 × gM) :=
  g_if (oB sh x0 8) (if (m.1 x0 38) = (10 : Int32) then ((f_X8_next sh F x0 m).bind (fun q87 => nm q87.1 (fun r86 => nm q87.2 (fun m85 => if r86 = 0 then (b_X8_dec_24 sh F x0 m85) else (if (m85.1 x0 38) = (1 : Int32) then ((f_X8_declare sh F x0 (m85.1 x0 49) (m85.1 x0 10) m85).bind (fun q92 => nm q92.1 (fun r91 => nm q92.2 (fun m90 => if r91 = 0 then (some (0, m90)) else ((f_X8_newScope sh F x0 (m90.1 x0 49) 1 (m90.1 x0 40) m90).bind (fun q96 => nm q96.1 (fun r95 => nm q96.2 (fun m94 => if r95 = 0 then (some (0, m94)) else ((f_X8_next sh F x0 m94).bind (fun q100 => nm q100.1 (fun r99 => nm q100.2 (fun m98 => if r99 = 0 then (some (0, m98)) else ((f_X8_is sh F x0 123 m98).bind (fun q104 => nm q104.1 (fun r103 => nm q104.2 (fun m102 => if r103 = 0 then ((f_X8_odd sh F x0 m102).bind (fun q119 => nm q119.1 (fun r118 => nm q119.2 (fun m117 => g_if (zB r118) (some (r118, m117)))))) else ((f_X8_bracket sh F x0 m102).bind (fun q108 => nm q108.1 (fun r107 => nm q108.2 (fun m106 => if r107 = 0 then (some (0, m106)) else ((f_X8_open sh F x0 0 m106).bind (fun m110 => nm (gsI m110 x0 49 ((m110.1 x0 10) - (1 : Int32))) (fun m112 => (f_X8_next sh F x0 m112).bind (fun q115 => nm q115.1 (fun r114 => nm q115.2 (fun m113 => g_if (zB r114) (some (r114, m113)))))))))))))))))))))))))))) else (b_X8_dec_24 sh F x0 m85)))))) else (if (m.1 x0 38) = (11 : Int32) then ((f_X8_next sh F x0 m).bind (fun q53 => nm q53.1 (fun r52 => nm q53.2 (fun m51 => if r52 = 0 then (some (0, m51)) else (if (m51.1 x0 38) = (1 : Int32) then (if (m51.1 x0 21) = (6 : Int32) then ((f_X8_blame sh F x0 4 (m51.1 x0 40) m51).bind (fun q79 => nm q79.1 (fun r78 => nm q79.2 (fun m77 => g_if (zB r78) (some (r78, m77)))))) else (nm (gsI m51 x0 21 ((m51.1 x0 21) + (1 : Int32))) (fun m57 => (f_X8_readLong sh F x0 m57).bind (fun q60 => nm q60.1 (fun r59 => nm q60.2 (fun m58 => if r59 = 0 then (some (0, m58)) else ((m58.2.2 x0 19).bind (fun t62 => g_if (aB sh t62 .int ((m58.1 x0 20) - (1 : Int32))) (nm (gsI m58 t62 ((m58.1 x0 20) - (1 : Int32)).toNatClampNeg (m58.1 x0 49)) (fun m64 => (f_X8_is sh F x0 59 m64).bind (fun q67 => nm q67.1 (fun r66 => nm q67.2 (fun m65 => if r66 = 0 then ((f_X8_odd sh F x0 m65).bind (fun q71 => nm q71.1 (fun r70 => nm q71.2 (fun m69 => g_if (zB r70) (some (r70, m69)))))) else ((f_X8_next sh F x0 m65).bind (fun q75 => nm q75.1 (fun r74 => nm q75.2 (fun m73 => g_if (zB r74) (some (r74, m73))))))))))))))))))) else ((f_X8_odd sh F x0 m51).bind (fun q83 => nm q83.1 (fun r82 => nm q83.2 (fun m81 => g_if (zB r82) (some (r82, m81))))))))))) else (if (m.1 x0 38) = (12 : Int32) then ((f_X8_next sh F x0 m).bind (fun q21 => nm q21.1 (fun r20 => nm q21.2 (fun m19 => if r20 = 0 then (some (0, m19)) else (if (m19.1 x0 38) = (1 : Int32) then ((f_X8_declare sh F x0 (m19.1 x0 49) (-1) m19).bind (fun q26 => nm q26.1 (fun r25 => nm q26.2 (fun m24 => if r25 = 0 then (some (0, m24)) else ((f_X8_next sh F x0 m24).bind (fun q30 => nm q30.1 (fun r29 => nm q30.2 (fun m28 => if r29 = 0 then (some (0, m28)) else ((f_X8_is sh F x0 61 m28).bind (fun q34 => nm q34.1 (fun r33 => nm q34.2 (fun m32 => if r33 = 0 then ((f_X8_odd sh F x0 m32).bind (fun q45 => nm q45.1 (fun r44 => nm q45.2 (fun m43 => g_if (zB r44) (some (r44, m43)))))) else ((f_X8_open sh F x0 1 m32).bind (fun m36 => nm (gsI m36 x0 51 0) (fun m38 => (f_X8_next sh F x0 m38).bind (fun q41 => nm q41.1 (fun r40 => nm q41.2 (fun m39 => g_if (zB r40) (some (r40, m39)))))))))))))))))))) else ((f_X8_odd sh F x0 m19).bind (fun q49 => nm q49.1 (fun r48 => nm q49.2 (fun m47 => g_if (zB r48) (some (r48, m47))))))))))) else ((f_X8_is sh F x0 125 m).bind (fun q7 => nm q7.1 (fun r6 => nm q7.2 (fun m5 => if r6 = 0 then (b_X8_dec_363 sh F x0 m5) else (if (m5.1 x0 47) ≤ 0 then (b_X8_dec_363 sh F x0 m5) else (nm (gsI m5 x0 47 ((m5.1 x0 47) - (1 : Int32))) (fun m10 => nm (gsI m10 x0 48 ((m10.1 x0 48) - (1 : Int32))) (fun m11 => (m11.2.2 x0 44).bind (fun t12 => g_if (aB sh t12 .int (m11.1 x0 47)) (nm (gsI m11 x0 49 (m11.1 t12 (m11.1 x0 47).toNatClampNeg)) (fun m14 => (f_X8_next sh F x0 m14).bind (fun q17 => nm q17.1 (fun r16 => nm q17.2 (fun m15 => g_if (zB r16) (some (r16, m15)))))))))))))))))))
set_option maxRecDepth 100000 in
set_option maxHeartbeats 4000000 in
theorem tf_X8_dec {X : gX} {w : gW} {rr : Int32} {rm : gM} (C : gC X w K_X8_dec 1 RX8 3) (hr : X.2.2.2.2.2.2.2.2.1.sig.returnType = (some .boolean)) {F : Nat} {x0 : Nat} {m : gM} (h : f_X8_dec w.2.2.2.2.1 F x0 m = some (rr, rm)) : gV X w 0 0 (gR X w (some (.int rr)) rm) 1 0 [(0, .ref x0)] [] m := by
  unfold f_X8_dec at h
  refine v_aload_n (pc := 0) C 0 0 rfl rfl rfl ?_
  obtain ⟨o1, h⟩ := g_okk h
  refine v_getI (pc := 1) C 1 rfl lf_ScopeGraphModel_187.get (g_oB o1) rfl ?_
  refine v_bipush (pc := 4) C 2 10 rfl (by decide) ?_
  refine v_icmp_ne (pc := 6) C 3 123 rfl (by decide) (fun c2 => ?_) (fun c2 => ?_)
  · replace h := g_ifF c2 h
    refine v_aload_n (pc := 123) C 63 0 rfl rfl rfl ?_
    refine v_getI (pc := 124) C 64 rfl lf_ScopeGraphModel_187.get (g_oB o1) rfl ?_
    refine v_bipush (pc := 127) C 65 11 rfl (by decide) ?_
    refine v_icmp_ne (pc := 129) C 66 228 rfl (by decide) (fun c3 => ?_) (fun c3 => ?_)
    · replace h := g_ifF c3 h
      refine v_aload_n (pc := 228) C 119 0 rfl rfl rfl ?_
      refine v_getI (pc := 229) C 120 rfl lf_ScopeGraphModel_187.get (g_oB o1) rfl ?_
      refine v_bipush (pc := 232) C 121 12 rfl (by decide) ?_
      refine v_icmp_ne (pc := 234) C 122 309 rfl (by decide) (fun c4 => ?_) (fun c4 => ?_)
      · replace h := g_ifF c4 h
        refine v_aload_n (pc := 309) C 162 0 rfl rfl rfl ?_
        refine v_bipush (pc := 310) C 163 125 rfl (by decide) ?_
        obtain ⟨⟨r6, m5⟩, qm5, h⟩ := g_bd h
        replace h := g_nm (y := m5) (g_nm (y := r6) h rfl) rfl
        refine v_callV (pc := 312) C 164 rfl mf_X8_is clX8 rfl im_X8_is lm_ScopeGraphModel_249 (c_X8_is C.2.2.2.2.2.2.2.2.2.2.2 qm5) (by decide) rfl (g_oB o1) (Nat.le_of_ble_eq_true rfl) ⟨Nat.zero_le _, Nat.zero_le _⟩ rfl ?_
        change gV X w 0 0 (gR X w (some (.int rr)) rm) 1 315 [(0, .ref x0)] [.int r6] m5
        refine v_if_eq (pc := 315) C 165 363 rfl (by decide) (fun c8 => ?_) (fun c8 => ?_)
        · replace h := g_ifT c8 h
          refine v_sub [(0, .ref x0)] [0] rfl ?_
          exact tb_X8_dec_363 (F := F) C hr h
        · replace h := g_ifF c8 h
          refine v_aload_n (pc := 318) C 166 0 rfl rfl rfl ?_
          refine v_getI (pc := 319) C 167 rfl lf_ScopeGraphModel_217.get (g_oB o1) rfl ?_
          refine v_if_le (pc := 322) C 168 363 rfl (by decide) (fun c9 => ?_) (fun c9 => ?_)
          · replace h := g_ifT c9 h
            refine v_sub [(0, .ref x0)] [0] rfl ?_
            exact tb_X8_dec_363 (F := F) C hr h
          · replace h := g_ifF c9 h
            refine v_aload_n (pc := 325) C 169 0 rfl rfl rfl ?_
            refine v_dup (pc := 326) C 170 rfl rfl ?_
            refine v_getI (pc := 327) C 171 rfl lf_ScopeGraphModel_217.get (g_oB o1) rfl ?_
            refine v_iconst (pc := 330) C 172 1 rfl (by decide) ?_
            refine v_isub (pc := 331) C 173 rfl ?_
            refine v_putI (pc := 332) C 174 rfl lf_ScopeGraphModel_217 (g_oB o1) rfl ?_
            refine v_topM (fun m10 em10 => ?_)
            replace h := g_nm h em10
            refine v_aload_n (pc := 335) C 175 0 rfl rfl rfl ?_
            refine v_dup (pc := 336) C 176 rfl rfl ?_
            refine v_getI (pc := 337) C 177 rfl lf_ScopeGraphModel_214.get (g_oB o1) rfl ?_
            refine v_iconst (pc := 340) C 178 1 rfl (by decide) ?_
            refine v_isub (pc := 341) C 179 rfl ?_
            refine v_putI (pc := 342) C 180 rfl lf_ScopeGraphModel_214 (g_oB o1) rfl ?_
            refine v_topM (fun m11 em11 => ?_)
            replace h := g_nm h em11
            refine v_aload_n (pc := 345) C 181 0 rfl rfl rfl ?_
            refine v_aload_n (pc := 346) C 182 0 rfl rfl rfl ?_
            obtain ⟨t12, qt12, h⟩ := g_bd h
            refine v_getR (pc := 347) C 183 rfl lf_ScopeGraphModel_92 (g_oB o1) rfl qt12 ?_
            refine v_aload_n (pc := 350) C 184 0 rfl rfl rfl ?_
            refine v_getI (pc := 351) C 185 rfl lf_ScopeGraphModel_217.get (g_oB o1) rfl ?_
            obtain ⟨b13, h⟩ := g_okk h
            refine v_iald' (pc := 354) C 186 rfl b13 ?_
            refine v_putI (pc := 355) C 187 rfl lf_ScopeGraphModel_220 (g_oB o1) rfl ?_
            refine v_topM (fun m14 em14 => ?_)
            replace h := g_nm h em14
            refine v_aload_n (pc := 358) C 188 0 rfl rfl rfl ?_
            obtain ⟨⟨r16, m15⟩, qm15, h⟩ := g_bd h
            replace h := g_nm (y := m15) (g_nm (y := r16) h rfl) rfl
            refine v_callV (pc := 359) C 189 rfl mf_X8_next clX8 rfl im_X8_next lm_ScopeGraphModel_229 (c_X8_next C.2.2.2.2.2.2.2.2.2.2.2 qm15) (by decide) rfl (g_oB o1) (Nat.le_of_ble_eq_true rfl) ⟨Nat.zero_le _, Nat.zero_le _⟩ rfl ?_
            change gV X w 0 0 (gR X w (some (.int rr)) rm) 1 362 [(0, .ref x0)] [.int r16] m15
            obtain ⟨o18, h⟩ := g_okk h
            obtain ⟨rfl, rfl⟩ := g_so h
            exact v_zret (pc := 362) C 190 rfl hr (g_zB o18)
      · replace h := g_ifT c4 h
        refine v_aload_n (pc := 237) C 123 0 rfl rfl rfl ?_
        obtain ⟨⟨r20, m19⟩, qm19, h⟩ := g_bd h
        replace h := g_nm (y := m19) (g_nm (y := r20) h rfl) rfl
        refine v_callV (pc := 238) C 124 rfl mf_X8_next clX8 rfl im_X8_next lm_ScopeGraphModel_229 (c_X8_next C.2.2.2.2.2.2.2.2.2.2.2 qm19) (by decide) rfl (g_oB o1) (Nat.le_of_ble_eq_true rfl) ⟨Nat.zero_le _, Nat.zero_le _⟩ rfl ?_
        change gV X w 0 0 (gR X w (some (.int rr)) rm) 1 241 [(0, .ref x0)] [.int r20] m19
        refine v_if_ne (pc := 241) C 125 246 rfl (by decide) (fun c22 => ?_) (fun c22 => ?_)
        · replace h := g_ifF c22 h
          refine v_aload_n (pc := 246) C 128 0 rfl rfl rfl ?_
          refine v_getI (pc := 247) C 129 rfl lf_ScopeGraphModel_187.get (g_oB o1) rfl ?_
          refine v_iconst (pc := 250) C 130 1 rfl (by decide) ?_
          refine v_icmp_eq (pc := 251) C 131 259 rfl (by decide) (fun c23 => ?_) (fun c23 => ?_)
          · replace h := g_ifT c23 h
            refine v_aload_n (pc := 259) C 135 0 rfl rfl rfl ?_
            refine v_aload_n (pc := 260) C 136 0 rfl rfl rfl ?_
            refine v_getI (pc := 261) C 137 rfl lf_ScopeGraphModel_220.get (g_oB o1) rfl ?_
            refine v_iconst (pc := 264) C 138 (-1) rfl (by decide) ?_
            obtain ⟨⟨r25, m24⟩, qm24, h⟩ := g_bd h
            replace h := g_nm (y := m24) (g_nm (y := r25) h rfl) rfl
            refine v_callV (pc := 265) C 139 rfl mf_X8_declare clX8 rfl im_X8_declare lm_ScopeGraphModel_242 (c_X8_declare C.2.2.2.2.2.2.2.2.2.2.2 qm24) (by decide) rfl (g_oB o1) (Nat.le_of_ble_eq_true rfl) ⟨Nat.zero_le _, Nat.zero_le _⟩ rfl ?_
            change gV X w 0 0 (gR X w (some (.int rr)) rm) 1 268 [(0, .ref x0)] [.int r25] m24
            refine v_if_eq (pc := 268) C 140 278 rfl (by decide) (fun c27 => ?_) (fun c27 => ?_)
            · replace h := g_ifT c27 h
              refine v_iconst (pc := 278) C 144 0 rfl (by decide) ?_
              obtain ⟨rfl, rfl⟩ := g_so h
              exact v_zret (pc := 279) C 145 rfl hr (by decide)
            · replace h := g_ifF c27 h
              refine v_aload_n (pc := 271) C 141 0 rfl rfl rfl ?_
              obtain ⟨⟨r29, m28⟩, qm28, h⟩ := g_bd h
              replace h := g_nm (y := m28) (g_nm (y := r29) h rfl) rfl
              refine v_callV (pc := 272) C 142 rfl mf_X8_next clX8 rfl im_X8_next lm_ScopeGraphModel_229 (c_X8_next C.2.2.2.2.2.2.2.2.2.2.2 qm28) (by decide) rfl (g_oB o1) (Nat.le_of_ble_eq_true rfl) ⟨Nat.zero_le _, Nat.zero_le _⟩ rfl ?_
              change gV X w 0 0 (gR X w (some (.int rr)) rm) 1 275 [(0, .ref x0)] [.int r29] m28
              refine v_if_ne (pc := 275) C 143 280 rfl (by decide) (fun c31 => ?_) (fun c31 => ?_)
              · replace h := g_ifF c31 h
                refine v_aload_n (pc := 280) C 146 0 rfl rfl rfl ?_
                refine v_bipush (pc := 281) C 147 61 rfl (by decide) ?_
                obtain ⟨⟨r33, m32⟩, qm32, h⟩ := g_bd h
                replace h := g_nm (y := m32) (g_nm (y := r33) h rfl) rfl
                refine v_callV (pc := 283) C 148 rfl mf_X8_is clX8 rfl im_X8_is lm_ScopeGraphModel_249 (c_X8_is C.2.2.2.2.2.2.2.2.2.2.2 qm32) (by decide) rfl (g_oB o1) (Nat.le_of_ble_eq_true rfl) ⟨Nat.zero_le _, Nat.zero_le _⟩ rfl ?_
                change gV X w 0 0 (gR X w (some (.int rr)) rm) 1 286 [(0, .ref x0)] [.int r33] m32
                refine v_if_ne (pc := 286) C 149 294 rfl (by decide) (fun c35 => ?_) (fun c35 => ?_)
                · replace h := g_ifF c35 h
                  refine v_aload_n (pc := 294) C 153 0 rfl rfl rfl ?_
                  refine v_iconst (pc := 295) C 154 1 rfl (by decide) ?_
                  obtain ⟨m36, qm36, h⟩ := g_bd h
                  refine v_callV (pc := 296) C 155 rfl mf_X8_open clX8 rfl im_X8_open lm_ScopeGraphModel_255 (c_X8_open C.2.2.2.2.2.2.2.2.2.2.2 qm36) (by decide) rfl (g_oB o1) (Nat.le_of_ble_eq_true rfl) ⟨Nat.zero_le _, Nat.zero_le _⟩ rfl ?_
                  change gV X w 0 0 (gR X w (some (.int rr)) rm) 1 299 [(0, .ref x0)] [] m36
                  refine v_aload_n (pc := 299) C 156 0 rfl rfl rfl ?_
                  refine v_iconst (pc := 300) C 157 0 rfl (by decide) ?_
                  refine v_putI (pc := 301) C 158 rfl lf_ScopeGraphModel_261 (g_oB o1) rfl ?_
                  refine v_topM (fun m38 em38 => ?_)
                  replace h := g_nm h em38
                  refine v_aload_n (pc := 304) C 159 0 rfl rfl rfl ?_
                  obtain ⟨⟨r40, m39⟩, qm39, h⟩ := g_bd h
                  replace h := g_nm (y := m39) (g_nm (y := r40) h rfl) rfl
                  refine v_callV (pc := 305) C 160 rfl mf_X8_next clX8 rfl im_X8_next lm_ScopeGraphModel_229 (c_X8_next C.2.2.2.2.2.2.2.2.2.2.2 qm39) (by decide) rfl (g_oB o1) (Nat.le_of_ble_eq_true rfl) ⟨Nat.zero_le _, Nat.zero_le _⟩ rfl ?_
                  change gV X w 0 0 (gR X w (some (.int rr)) rm) 1 308 [(0, .ref x0)] [.int r40] m39
                  obtain ⟨o42, h⟩ := g_okk h
                  obtain ⟨rfl, rfl⟩ := g_so h
                  exact v_zret (pc := 308) C 161 rfl hr (g_zB o42)
                · replace h := g_ifT c35 h
                  refine v_aload_n (pc := 289) C 150 0 rfl rfl rfl ?_
                  obtain ⟨⟨r44, m43⟩, qm43, h⟩ := g_bd h
                  replace h := g_nm (y := m43) (g_nm (y := r44) h rfl) rfl
                  refine v_callV (pc := 290) C 151 rfl mf_X8_odd clX8 rfl im_X8_odd lm_ScopeGraphModel_239 (c_X8_odd C.2.2.2.2.2.2.2.2.2.2.2 qm43) (by decide) rfl (g_oB o1) (Nat.le_of_ble_eq_true rfl) ⟨Nat.zero_le _, Nat.zero_le _⟩ rfl ?_
                  change gV X w 0 0 (gR X w (some (.int rr)) rm) 1 293 [(0, .ref x0)] [.int r44] m43
                  obtain ⟨o46, h⟩ := g_okk h
                  obtain ⟨rfl, rfl⟩ := g_so h
                  exact v_zret (pc := 293) C 152 rfl hr (g_zB o46)
              · replace h := g_ifT c31 h
                refine v_iconst (pc := 278) C 144 0 rfl (by decide) ?_
                obtain ⟨rfl, rfl⟩ := g_so h
                exact v_zret (pc := 279) C 145 rfl hr (by decide)
          · replace h := g_ifF c23 h
            refine v_aload_n (pc := 254) C 132 0 rfl rfl rfl ?_
            obtain ⟨⟨r48, m47⟩, qm47, h⟩ := g_bd h
            replace h := g_nm (y := m47) (g_nm (y := r48) h rfl) rfl
            refine v_callV (pc := 255) C 133 rfl mf_X8_odd clX8 rfl im_X8_odd lm_ScopeGraphModel_239 (c_X8_odd C.2.2.2.2.2.2.2.2.2.2.2 qm47) (by decide) rfl (g_oB o1) (Nat.le_of_ble_eq_true rfl) ⟨Nat.zero_le _, Nat.zero_le _⟩ rfl ?_
            change gV X w 0 0 (gR X w (some (.int rr)) rm) 1 258 [(0, .ref x0)] [.int r48] m47
            obtain ⟨o50, h⟩ := g_okk h
            obtain ⟨rfl, rfl⟩ := g_so h
            exact v_zret (pc := 258) C 134 rfl hr (g_zB o50)
        · replace h := g_ifT c22 h
          refine v_iconst (pc := 244) C 126 0 rfl (by decide) ?_
          obtain ⟨rfl, rfl⟩ := g_so h
          exact v_zret (pc := 245) C 127 rfl hr (by decide)
    · replace h := g_ifT c3 h
      refine v_aload_n (pc := 132) C 67 0 rfl rfl rfl ?_
      obtain ⟨⟨r52, m51⟩, qm51, h⟩ := g_bd h
      replace h := g_nm (y := m51) (g_nm (y := r52) h rfl) rfl
      refine v_callV (pc := 133) C 68 rfl mf_X8_next clX8 rfl im_X8_next lm_ScopeGraphModel_229 (c_X8_next C.2.2.2.2.2.2.2.2.2.2.2 qm51) (by decide) rfl (g_oB o1) (Nat.le_of_ble_eq_true rfl) ⟨Nat.zero_le _, Nat.zero_le _⟩ rfl ?_
      change gV X w 0 0 (gR X w (some (.int rr)) rm) 1 136 [(0, .ref x0)] [.int r52] m51
      refine v_if_ne (pc := 136) C 69 141 rfl (by decide) (fun c54 => ?_) (fun c54 => ?_)
      · replace h := g_ifF c54 h
        refine v_aload_n (pc := 141) C 72 0 rfl rfl rfl ?_
        refine v_getI (pc := 142) C 73 rfl lf_ScopeGraphModel_187.get (g_oB o1) rfl ?_
        refine v_iconst (pc := 145) C 74 1 rfl (by decide) ?_
        refine v_icmp_eq (pc := 146) C 75 154 rfl (by decide) (fun c55 => ?_) (fun c55 => ?_)
        · replace h := g_ifT c55 h
          refine v_aload_n (pc := 154) C 79 0 rfl rfl rfl ?_
          refine v_getI (pc := 155) C 80 rfl lf_ScopeGraphModel_226.get (g_oB o1) rfl ?_
          refine v_bipush (pc := 158) C 81 6 rfl (by decide) ?_
          refine v_icmp_ne (pc := 160) C 82 173 rfl (by decide) (fun c56 => ?_) (fun c56 => ?_)
          · replace h := g_ifF c56 h
            refine v_aload_n (pc := 173) C 89 0 rfl rfl rfl ?_
            refine v_dup (pc := 174) C 90 rfl rfl ?_
            refine v_getI (pc := 175) C 91 rfl lf_ScopeGraphModel_226.get (g_oB o1) rfl ?_
            refine v_iconst (pc := 178) C 92 1 rfl (by decide) ?_
            refine v_iadd (pc := 179) C 93 rfl ?_
            refine v_putI (pc := 180) C 94 rfl lf_ScopeGraphModel_226 (g_oB o1) rfl ?_
            refine v_topM (fun m57 em57 => ?_)
            replace h := g_nm h em57
            refine v_aload_n (pc := 183) C 95 0 rfl rfl rfl ?_
            obtain ⟨⟨r59, m58⟩, qm58, h⟩ := g_bd h
            replace h := g_nm (y := m58) (g_nm (y := r59) h rfl) rfl
            refine v_callV (pc := 184) C 96 rfl mf_X8_readLong clX8 rfl im_X8_readLong lm_ScopeGraphModel_258 (c_X8_readLong C.2.2.2.2.2.2.2.2.2.2.2 qm58) (by decide) rfl (g_oB o1) (Nat.le_of_ble_eq_true rfl) ⟨Nat.zero_le _, Nat.zero_le _⟩ rfl ?_
            change gV X w 0 0 (gR X w (some (.int rr)) rm) 1 187 [(0, .ref x0)] [.int r59] m58
            refine v_if_ne (pc := 187) C 97 192 rfl (by decide) (fun c61 => ?_) (fun c61 => ?_)
            · replace h := g_ifF c61 h
              refine v_aload_n (pc := 192) C 100 0 rfl rfl rfl ?_
              obtain ⟨t62, qt62, h⟩ := g_bd h
              refine v_getR (pc := 193) C 101 rfl lf_ScopeGraphModel_50 (g_oB o1) rfl qt62 ?_
              refine v_aload_n (pc := 196) C 102 0 rfl rfl rfl ?_
              refine v_getI (pc := 197) C 103 rfl lf_ScopeGraphModel_223.get (g_oB o1) rfl ?_
              refine v_iconst (pc := 200) C 104 1 rfl (by decide) ?_
              refine v_isub (pc := 201) C 105 rfl ?_
              refine v_aload_n (pc := 202) C 106 0 rfl rfl rfl ?_
              refine v_getI (pc := 203) C 107 rfl lf_ScopeGraphModel_220.get (g_oB o1) rfl ?_
              obtain ⟨b63, h⟩ := g_okk h
              refine v_iast' (pc := 206) C 108 rfl b63 ?_
              refine v_topM (fun m64 em64 => ?_)
              replace h := g_nm h em64
              refine v_aload_n (pc := 207) C 109 0 rfl rfl rfl ?_
              refine v_bipush (pc := 208) C 110 59 rfl (by decide) ?_
              obtain ⟨⟨r66, m65⟩, qm65, h⟩ := g_bd h
              replace h := g_nm (y := m65) (g_nm (y := r66) h rfl) rfl
              refine v_callV (pc := 210) C 111 rfl mf_X8_is clX8 rfl im_X8_is lm_ScopeGraphModel_249 (c_X8_is C.2.2.2.2.2.2.2.2.2.2.2 qm65) (by decide) rfl (g_oB o1) (Nat.le_of_ble_eq_true rfl) ⟨Nat.zero_le _, Nat.zero_le _⟩ rfl ?_
              change gV X w 0 0 (gR X w (some (.int rr)) rm) 1 213 [(0, .ref x0)] [.int r66] m65
              refine v_if_eq (pc := 213) C 112 223 rfl (by decide) (fun c68 => ?_) (fun c68 => ?_)
              · replace h := g_ifT c68 h
                refine v_aload_n (pc := 223) C 116 0 rfl rfl rfl ?_
                obtain ⟨⟨r70, m69⟩, qm69, h⟩ := g_bd h
                replace h := g_nm (y := m69) (g_nm (y := r70) h rfl) rfl
                refine v_callV (pc := 224) C 117 rfl mf_X8_odd clX8 rfl im_X8_odd lm_ScopeGraphModel_239 (c_X8_odd C.2.2.2.2.2.2.2.2.2.2.2 qm69) (by decide) rfl (g_oB o1) (Nat.le_of_ble_eq_true rfl) ⟨Nat.zero_le _, Nat.zero_le _⟩ rfl ?_
                change gV X w 0 0 (gR X w (some (.int rr)) rm) 1 227 [(0, .ref x0)] [.int r70] m69
                obtain ⟨o72, h⟩ := g_okk h
                obtain ⟨rfl, rfl⟩ := g_so h
                exact v_zret (pc := 227) C 118 rfl hr (g_zB o72)
              · replace h := g_ifF c68 h
                refine v_aload_n (pc := 216) C 113 0 rfl rfl rfl ?_
                obtain ⟨⟨r74, m73⟩, qm73, h⟩ := g_bd h
                replace h := g_nm (y := m73) (g_nm (y := r74) h rfl) rfl
                refine v_callV (pc := 217) C 114 rfl mf_X8_next clX8 rfl im_X8_next lm_ScopeGraphModel_229 (c_X8_next C.2.2.2.2.2.2.2.2.2.2.2 qm73) (by decide) rfl (g_oB o1) (Nat.le_of_ble_eq_true rfl) ⟨Nat.zero_le _, Nat.zero_le _⟩ rfl ?_
                change gV X w 0 0 (gR X w (some (.int rr)) rm) 1 220 [(0, .ref x0)] [.int r74] m73
                refine v_goto (pc := 220) C 115 227 rfl (by decide) ?_
                obtain ⟨o76, h⟩ := g_okk h
                obtain ⟨rfl, rfl⟩ := g_so h
                exact v_zret (pc := 227) C 118 rfl hr (g_zB o76)
            · replace h := g_ifT c61 h
              refine v_iconst (pc := 190) C 98 0 rfl (by decide) ?_
              obtain ⟨rfl, rfl⟩ := g_so h
              exact v_zret (pc := 191) C 99 rfl hr (by decide)
          · replace h := g_ifT c56 h
            refine v_aload_n (pc := 163) C 83 0 rfl rfl rfl ?_
            refine v_iconst (pc := 164) C 84 4 rfl (by decide) ?_
            refine v_aload_n (pc := 165) C 85 0 rfl rfl rfl ?_
            refine v_getI (pc := 166) C 86 rfl lf_ScopeGraphModel_184.get (g_oB o1) rfl ?_
            obtain ⟨⟨r78, m77⟩, qm77, h⟩ := g_bd h
            replace h := g_nm (y := m77) (g_nm (y := r78) h rfl) rfl
            refine v_callV (pc := 169) C 87 rfl mf_X8_blame clX8 rfl im_X8_blame lm_ScopeGraphModel_204 (c_X8_blame C.2.2.2.2.2.2.2.2.2.2.2 qm77) (by decide) rfl (g_oB o1) (Nat.le_of_ble_eq_true rfl) ⟨Nat.zero_le _, Nat.zero_le _⟩ rfl ?_
            change gV X w 0 0 (gR X w (some (.int rr)) rm) 1 172 [(0, .ref x0)] [.int r78] m77
            obtain ⟨o80, h⟩ := g_okk h
            obtain ⟨rfl, rfl⟩ := g_so h
            exact v_zret (pc := 172) C 88 rfl hr (g_zB o80)
        · replace h := g_ifF c55 h
          refine v_aload_n (pc := 149) C 76 0 rfl rfl rfl ?_
          obtain ⟨⟨r82, m81⟩, qm81, h⟩ := g_bd h
          replace h := g_nm (y := m81) (g_nm (y := r82) h rfl) rfl
          refine v_callV (pc := 150) C 77 rfl mf_X8_odd clX8 rfl im_X8_odd lm_ScopeGraphModel_239 (c_X8_odd C.2.2.2.2.2.2.2.2.2.2.2 qm81) (by decide) rfl (g_oB o1) (Nat.le_of_ble_eq_true rfl) ⟨Nat.zero_le _, Nat.zero_le _⟩ rfl ?_
          change gV X w 0 0 (gR X w (some (.int rr)) rm) 1 153 [(0, .ref x0)] [.int r82] m81
          obtain ⟨o84, h⟩ := g_okk h
          obtain ⟨rfl, rfl⟩ := g_so h
          exact v_zret (pc := 153) C 78 rfl hr (g_zB o84)
      · replace h := g_ifT c54 h
        refine v_iconst (pc := 139) C 70 0 rfl (by decide) ?_
        obtain ⟨rfl, rfl⟩ := g_so h
        exact v_zret (pc := 140) C 71 rfl hr (by decide)
  · replace h := g_ifT c2 h
    refine v_aload_n (pc := 9) C 4 0 rfl rfl rfl ?_
    obtain ⟨⟨r86, m85⟩, qm85, h⟩ := g_bd h
    replace h := g_nm (y := m85) (g_nm (y := r86) h rfl) rfl
    refine v_callV (pc := 10) C 5 rfl mf_X8_next clX8 rfl im_X8_next lm_ScopeGraphModel_229 (c_X8_next C.2.2.2.2.2.2.2.2.2.2.2 qm85) (by decide) rfl (g_oB o1) (Nat.le_of_ble_eq_true rfl) ⟨Nat.zero_le _, Nat.zero_le _⟩ rfl ?_
    change gV X w 0 0 (gR X w (some (.int rr)) rm) 1 13 [(0, .ref x0)] [.int r86] m85
    refine v_if_eq (pc := 13) C 6 24 rfl (by decide) (fun c88 => ?_) (fun c88 => ?_)
    · replace h := g_ifT c88 h
      refine v_sub [(0, .ref x0)] [0] rfl ?_
      exact tb_X8_dec_24 (F := F) C hr h
    · replace h := g_ifF c88 h
      refine v_aload_n (pc := 16) C 7 0 rfl rfl rfl ?_
      refine v_getI (pc := 17) C 8 rfl lf_ScopeGraphModel_187.get (g_oB o1) rfl ?_
      refine v_iconst (pc := 20) C 9 1 rfl (by decide) ?_
      refine v_icmp_eq (pc := 21) C 10 40 rfl (by decide) (fun c89 => ?_) (fun c89 => ?_)
      · replace h := g_ifT c89 h
        refine v_aload_n (pc := 40) C 19 0 rfl rfl rfl ?_
        refine v_aload_n (pc := 41) C 20 0 rfl rfl rfl ?_
        refine v_getI (pc := 42) C 21 rfl lf_ScopeGraphModel_220.get (g_oB o1) rfl ?_
        refine v_aload_n (pc := 45) C 22 0 rfl rfl rfl ?_
        refine v_getI (pc := 46) C 23 rfl lf_ScopeGraphModel_25.get (g_oB o1) rfl ?_
        obtain ⟨⟨r91, m90⟩, qm90, h⟩ := g_bd h
        replace h := g_nm (y := m90) (g_nm (y := r91) h rfl) rfl
        refine v_callV (pc := 49) C 24 rfl mf_X8_declare clX8 rfl im_X8_declare lm_ScopeGraphModel_242 (c_X8_declare C.2.2.2.2.2.2.2.2.2.2.2 qm90) (by decide) rfl (g_oB o1) (Nat.le_of_ble_eq_true rfl) ⟨Nat.zero_le _, Nat.zero_le _⟩ rfl ?_
        change gV X w 0 0 (gR X w (some (.int rr)) rm) 1 52 [(0, .ref x0)] [.int r91] m90
        refine v_if_eq (pc := 52) C 25 78 rfl (by decide) (fun c93 => ?_) (fun c93 => ?_)
        · replace h := g_ifT c93 h
          refine v_iconst (pc := 78) C 37 0 rfl (by decide) ?_
          obtain ⟨rfl, rfl⟩ := g_so h
          exact v_zret (pc := 79) C 38 rfl hr (by decide)
        · replace h := g_ifF c93 h
          refine v_aload_n (pc := 55) C 26 0 rfl rfl rfl ?_
          refine v_aload_n (pc := 56) C 27 0 rfl rfl rfl ?_
          refine v_getI (pc := 57) C 28 rfl lf_ScopeGraphModel_220.get (g_oB o1) rfl ?_
          refine v_iconst (pc := 60) C 29 1 rfl (by decide) ?_
          refine v_aload_n (pc := 61) C 30 0 rfl rfl rfl ?_
          refine v_getI (pc := 62) C 31 rfl lf_ScopeGraphModel_184.get (g_oB o1) rfl ?_
          obtain ⟨⟨r95, m94⟩, qm94, h⟩ := g_bd h
          replace h := g_nm (y := m94) (g_nm (y := r95) h rfl) rfl
          refine v_callV (pc := 65) C 32 rfl mf_X8_newScope clX8 rfl im_X8_newScope lm_ScopeGraphModel_245 (c_X8_newScope C.2.2.2.2.2.2.2.2.2.2.2 qm94) (by decide) rfl (g_oB o1) (Nat.le_of_ble_eq_true rfl) ⟨Nat.zero_le _, Nat.zero_le _⟩ rfl ?_
          change gV X w 0 0 (gR X w (some (.int rr)) rm) 1 68 [(0, .ref x0)] [.int r95] m94
          refine v_if_eq (pc := 68) C 33 78 rfl (by decide) (fun c97 => ?_) (fun c97 => ?_)
          · replace h := g_ifT c97 h
            refine v_iconst (pc := 78) C 37 0 rfl (by decide) ?_
            obtain ⟨rfl, rfl⟩ := g_so h
            exact v_zret (pc := 79) C 38 rfl hr (by decide)
          · replace h := g_ifF c97 h
            refine v_aload_n (pc := 71) C 34 0 rfl rfl rfl ?_
            obtain ⟨⟨r99, m98⟩, qm98, h⟩ := g_bd h
            replace h := g_nm (y := m98) (g_nm (y := r99) h rfl) rfl
            refine v_callV (pc := 72) C 35 rfl mf_X8_next clX8 rfl im_X8_next lm_ScopeGraphModel_229 (c_X8_next C.2.2.2.2.2.2.2.2.2.2.2 qm98) (by decide) rfl (g_oB o1) (Nat.le_of_ble_eq_true rfl) ⟨Nat.zero_le _, Nat.zero_le _⟩ rfl ?_
            change gV X w 0 0 (gR X w (some (.int rr)) rm) 1 75 [(0, .ref x0)] [.int r99] m98
            refine v_if_ne (pc := 75) C 36 80 rfl (by decide) (fun c101 => ?_) (fun c101 => ?_)
            · replace h := g_ifF c101 h
              refine v_aload_n (pc := 80) C 39 0 rfl rfl rfl ?_
              refine v_bipush (pc := 81) C 40 123 rfl (by decide) ?_
              obtain ⟨⟨r103, m102⟩, qm102, h⟩ := g_bd h
              replace h := g_nm (y := m102) (g_nm (y := r103) h rfl) rfl
              refine v_callV (pc := 83) C 41 rfl mf_X8_is clX8 rfl im_X8_is lm_ScopeGraphModel_249 (c_X8_is C.2.2.2.2.2.2.2.2.2.2.2 qm102) (by decide) rfl (g_oB o1) (Nat.le_of_ble_eq_true rfl) ⟨Nat.zero_le _, Nat.zero_le _⟩ rfl ?_
              change gV X w 0 0 (gR X w (some (.int rr)) rm) 1 86 [(0, .ref x0)] [.int r103] m102
              refine v_if_ne (pc := 86) C 42 94 rfl (by decide) (fun c105 => ?_) (fun c105 => ?_)
              · replace h := g_ifF c105 h
                refine v_aload_n (pc := 94) C 46 0 rfl rfl rfl ?_
                obtain ⟨⟨r107, m106⟩, qm106, h⟩ := g_bd h
                replace h := g_nm (y := m106) (g_nm (y := r107) h rfl) rfl
                refine v_callV (pc := 95) C 47 rfl mf_X8_bracket clX8 rfl im_X8_bracket lm_ScopeGraphModel_252 (c_X8_bracket C.2.2.2.2.2.2.2.2.2.2.2 qm106) (by decide) rfl (g_oB o1) (Nat.le_of_ble_eq_true rfl) ⟨Nat.zero_le _, Nat.zero_le _⟩ rfl ?_
                change gV X w 0 0 (gR X w (some (.int rr)) rm) 1 98 [(0, .ref x0)] [.int r107] m106
                refine v_if_ne (pc := 98) C 48 103 rfl (by decide) (fun c109 => ?_) (fun c109 => ?_)
                · replace h := g_ifF c109 h
                  refine v_aload_n (pc := 103) C 51 0 rfl rfl rfl ?_
                  refine v_iconst (pc := 104) C 52 0 rfl (by decide) ?_
                  obtain ⟨m110, qm110, h⟩ := g_bd h
                  refine v_callV (pc := 105) C 53 rfl mf_X8_open clX8 rfl im_X8_open lm_ScopeGraphModel_255 (c_X8_open C.2.2.2.2.2.2.2.2.2.2.2 qm110) (by decide) rfl (g_oB o1) (Nat.le_of_ble_eq_true rfl) ⟨Nat.zero_le _, Nat.zero_le _⟩ rfl ?_
                  change gV X w 0 0 (gR X w (some (.int rr)) rm) 1 108 [(0, .ref x0)] [] m110
                  refine v_aload_n (pc := 108) C 54 0 rfl rfl rfl ?_
                  refine v_aload_n (pc := 109) C 55 0 rfl rfl rfl ?_
                  refine v_getI (pc := 110) C 56 rfl lf_ScopeGraphModel_25.get (g_oB o1) rfl ?_
                  refine v_iconst (pc := 113) C 57 1 rfl (by decide) ?_
                  refine v_isub (pc := 114) C 58 rfl ?_
                  refine v_putI (pc := 115) C 59 rfl lf_ScopeGraphModel_220 (g_oB o1) rfl ?_
                  refine v_topM (fun m112 em112 => ?_)
                  replace h := g_nm h em112
                  refine v_aload_n (pc := 118) C 60 0 rfl rfl rfl ?_
                  obtain ⟨⟨r114, m113⟩, qm113, h⟩ := g_bd h
                  replace h := g_nm (y := m113) (g_nm (y := r114) h rfl) rfl
                  refine v_callV (pc := 119) C 61 rfl mf_X8_next clX8 rfl im_X8_next lm_ScopeGraphModel_229 (c_X8_next C.2.2.2.2.2.2.2.2.2.2.2 qm113) (by decide) rfl (g_oB o1) (Nat.le_of_ble_eq_true rfl) ⟨Nat.zero_le _, Nat.zero_le _⟩ rfl ?_
                  change gV X w 0 0 (gR X w (some (.int rr)) rm) 1 122 [(0, .ref x0)] [.int r114] m113
                  obtain ⟨o116, h⟩ := g_okk h
                  obtain ⟨rfl, rfl⟩ := g_so h
                  exact v_zret (pc := 122) C 62 rfl hr (g_zB o116)
                · replace h := g_ifT c109 h
                  refine v_iconst (pc := 101) C 49 0 rfl (by decide) ?_
                  obtain ⟨rfl, rfl⟩ := g_so h
                  exact v_zret (pc := 102) C 50 rfl hr (by decide)
              · replace h := g_ifT c105 h
                refine v_aload_n (pc := 89) C 43 0 rfl rfl rfl ?_
                obtain ⟨⟨r118, m117⟩, qm117, h⟩ := g_bd h
                replace h := g_nm (y := m117) (g_nm (y := r118) h rfl) rfl
                refine v_callV (pc := 90) C 44 rfl mf_X8_odd clX8 rfl im_X8_odd lm_ScopeGraphModel_239 (c_X8_odd C.2.2.2.2.2.2.2.2.2.2.2 qm117) (by decide) rfl (g_oB o1) (Nat.le_of_ble_eq_true rfl) ⟨Nat.zero_le _, Nat.zero_le _⟩ rfl ?_
                change gV X w 0 0 (gR X w (some (.int rr)) rm) 1 93 [(0, .ref x0)] [.int r118] m117
                obtain ⟨o120, h⟩ := g_okk h
                obtain ⟨rfl, rfl⟩ := g_so h
                exact v_zret (pc := 93) C 45 rfl hr (g_zB o120)
            · replace h := g_ifT c101 h
              refine v_iconst (pc := 78) C 37 0 rfl (by decide) ?_
              obtain ⟨rfl, rfl⟩ := g_so h
              exact v_zret (pc := 79) C 38 rfl hr (by decide)
      · replace h := g_ifF c89 h
        refine v_sub [(0, .ref x0)] [0] rfl ?_
        exact tb_X8_dec_24 (F := F) C hr h
theorem c_X8_dec {l : Launch} {w : gW} {rr : Int32} {rm : gM} (hJ : gJok w) {F : Nat} {x0 : Nat} {m : gM} (h : f_X8_dec w.2.2.2.2.1 F x0 m = some (rr, rm)) : gMet l 3 yX8_dec cX8_dec 1 (some .boolean) w [.ref x0] m (some (.int rr)) rm :=
  gMet.of hJ mf_X8_dec dk_X8_dec (Nat.le_of_ble_eq_true rfl) (fun X _ C hr => tf_X8_dec (F := F) C hr h)
def b_X8_bind_132 (sh : List gS) (F : Nat) (x0 : Nat) (m : gM) : Option (Int32 × gM) :=
  g_if (oB sh x0 8) ((f_X8_next sh F x0 m).bind (fun q4 => nm q4.1 (fun r3 => nm q4.2 (fun m2 => if r3 = 0 then (some (0, m2)) else ((f_X8_is sh F x0 61 m2).bind (fun q8 => nm q8.1 (fun r7 => nm q8.2 (fun m6 => if r7 = 0 then ((f_X8_odd sh F x0 m6).bind (fun q17 => nm q17.1 (fun r16 => nm q17.2 (fun m15 => g_if (zB r16) (some (r16, m15)))))) else (nm (gsI m6 x0 51 0) (fun m10 => (f_X8_next sh F x0 m10).bind (fun q13 => nm q13.1 (fun r12 => nm q13.2 (fun m11 => g_if (zB r12) (some (r12, m11)))))))))))))))
set_option maxRecDepth 100000 in
set_option maxHeartbeats 4000000 in
theorem tb_X8_bind_132 {X : gX} {w : gW} {rr : Int32} {rm : gM} (C : gC X w K_X8_bind 2 RX8 2) (hr : X.2.2.2.2.2.2.2.2.1.sig.returnType = (some .boolean)) {F : Nat} {x0 : Nat} {m : gM} (h : b_X8_bind_132 w.2.2.2.2.1 F x0 m = some (rr, rm)) : gV X w 0 0 (gR X w (some (.int rr)) rm) 2 132 [(0, .ref x0)] [] m := by
  unfold b_X8_bind_132 at h
  refine v_aload_n (pc := 132) C 76 0 rfl rfl rfl ?_
  obtain ⟨o1, h⟩ := g_okk h
  obtain ⟨⟨r3, m2⟩, qm2, h⟩ := g_bd h
  replace h := g_nm (y := m2) (g_nm (y := r3) h rfl) rfl
  refine v_callV (pc := 133) C 77 rfl mf_X8_next clX8 rfl im_X8_next lm_ScopeGraphModel_229 (c_X8_next C.2.2.2.2.2.2.2.2.2.2.2 qm2) (by decide) rfl (g_oB o1) (Nat.le_of_ble_eq_true rfl) ⟨Nat.zero_le _, Nat.zero_le _⟩ rfl ?_
  change gV X w 0 0 (gR X w (some (.int rr)) rm) 2 136 [(0, .ref x0)] [.int r3] m2
  refine v_if_ne (pc := 136) C 78 141 rfl (by decide) (fun c5 => ?_) (fun c5 => ?_)
  · replace h := g_ifF c5 h
    refine v_aload_n (pc := 141) C 81 0 rfl rfl rfl ?_
    refine v_bipush (pc := 142) C 82 61 rfl (by decide) ?_
    obtain ⟨⟨r7, m6⟩, qm6, h⟩ := g_bd h
    replace h := g_nm (y := m6) (g_nm (y := r7) h rfl) rfl
    refine v_callV (pc := 144) C 83 rfl mf_X8_is clX8 rfl im_X8_is lm_ScopeGraphModel_249 (c_X8_is C.2.2.2.2.2.2.2.2.2.2.2 qm6) (by decide) rfl (g_oB o1) (Nat.le_of_ble_eq_true rfl) ⟨Nat.zero_le _, Nat.zero_le _⟩ rfl ?_
    change gV X w 0 0 (gR X w (some (.int rr)) rm) 2 147 [(0, .ref x0)] [.int r7] m6
    refine v_if_ne (pc := 147) C 84 155 rfl (by decide) (fun c9 => ?_) (fun c9 => ?_)
    · replace h := g_ifF c9 h
      refine v_aload_n (pc := 155) C 88 0 rfl rfl rfl ?_
      refine v_iconst (pc := 156) C 89 0 rfl (by decide) ?_
      refine v_putI (pc := 157) C 90 rfl lf_ScopeGraphModel_261 (g_oB o1) rfl ?_
      refine v_topM (fun m10 em10 => ?_)
      replace h := g_nm h em10
      refine v_aload_n (pc := 160) C 91 0 rfl rfl rfl ?_
      obtain ⟨⟨r12, m11⟩, qm11, h⟩ := g_bd h
      replace h := g_nm (y := m11) (g_nm (y := r12) h rfl) rfl
      refine v_callV (pc := 161) C 92 rfl mf_X8_next clX8 rfl im_X8_next lm_ScopeGraphModel_229 (c_X8_next C.2.2.2.2.2.2.2.2.2.2.2 qm11) (by decide) rfl (g_oB o1) (Nat.le_of_ble_eq_true rfl) ⟨Nat.zero_le _, Nat.zero_le _⟩ rfl ?_
      change gV X w 0 0 (gR X w (some (.int rr)) rm) 2 164 [(0, .ref x0)] [.int r12] m11
      obtain ⟨o14, h⟩ := g_okk h
      obtain ⟨rfl, rfl⟩ := g_so h
      exact v_zret (pc := 164) C 93 rfl hr (g_zB o14)
    · replace h := g_ifT c9 h
      refine v_aload_n (pc := 150) C 85 0 rfl rfl rfl ?_
      obtain ⟨⟨r16, m15⟩, qm15, h⟩ := g_bd h
      replace h := g_nm (y := m15) (g_nm (y := r16) h rfl) rfl
      refine v_callV (pc := 151) C 86 rfl mf_X8_odd clX8 rfl im_X8_odd lm_ScopeGraphModel_239 (c_X8_odd C.2.2.2.2.2.2.2.2.2.2.2 qm15) (by decide) rfl (g_oB o1) (Nat.le_of_ble_eq_true rfl) ⟨Nat.zero_le _, Nat.zero_le _⟩ rfl ?_
      change gV X w 0 0 (gR X w (some (.int rr)) rm) 2 154 [(0, .ref x0)] [.int r16] m15
      obtain ⟨o18, h⟩ := g_okk h
      obtain ⟨rfl, rfl⟩ := g_so h
      exact v_zret (pc := 154) C 87 rfl hr (g_zB o18)
  · replace h := g_ifT c5 h
    refine v_iconst (pc := 139) C 79 0 rfl (by decide) ?_
    obtain ⟨rfl, rfl⟩ := g_so h
    exact v_zret (pc := 140) C 80 rfl hr (by decide)
def b_X8_bind_129 (sh : List gS) (F : Nat) (x0 : Nat) (y0 : Int32) (y1 : Nat) (m : gM) : Option (Int32 × gM) :=
  g_if (oB sh y1 8) (nm (gsI m y1 49 y0) (fun m2 => b_X8_bind_132 sh F x0 m2))
set_option maxRecDepth 100000 in
set_option maxHeartbeats 4000000 in
theorem tb_X8_bind_129 {X : gX} {w : gW} {rr : Int32} {rm : gM} (C : gC X w K_X8_bind 2 RX8 2) (hr : X.2.2.2.2.2.2.2.2.1.sig.returnType = (some .boolean)) {F : Nat} {x0 : Nat} {y0 : Int32} {y1 : Nat} {m : gM} (h : b_X8_bind_129 w.2.2.2.2.1 F x0 y0 y1 m = some (rr, rm)) : gV X w 0 0 (gR X w (some (.int rr)) rm) 2 129 [(0, .ref x0)] [.int y0, .ref y1] m := by
  unfold b_X8_bind_129 at h
  obtain ⟨o1, h⟩ := g_okk h
  refine v_putI (pc := 129) C 75 rfl lf_ScopeGraphModel_220 (g_oB o1) rfl ?_
  refine v_topM (fun m2 em2 => ?_)
  replace h := g_nm h em2
  refine v_sub [(0, .ref x0)] [0] rfl ?_
  exact tb_X8_bind_132 (F := F) C hr h
def f_X8_bind (sh : List gS) (F : Nat) (x0 : Nat) (m : gM) : Option (Int32 × gM) :=
  g_if (oB sh x0 8) (nm ((m.1 x0 47) - (1 : Int32)) (fun v2 => if (m.1 x0 38) = (1 : Int32) then ((m.2.2 x0 45).bind (fun t4 => g_if (aB sh t4 .int v2) (if (m.1 t4 (v2).toNatClampNeg) = (14 : Int32) then ((m.2.2 x0 46).bind (fun t20 => g_if (aB sh t20 .int v2) (nm (gsI m x0 49 (m.1 t20 (v2).toNatClampNeg)) (fun m22 => (f_X8_declare sh F x0 (m22.1 x0 10) (-1) m22).bind (fun q25 => nm q25.1 (fun r24 => nm q25.2 (fun m23 => if r24 = 0 then (some (0, m23)) else ((f_X8_newScope sh F x0 (m23.1 x0 49) 3 (m23.1 x0 40) m23).bind (fun q29 => nm q29.1 (fun r28 => nm q29.2 (fun m27 => if r28 = 0 then (some (0, m27)) else ((m27.2.2 x0 46).bind (fun t31 => g_if (aB sh t31 .int v2) (nm (gsI m27 t31 (v2).toNatClampNeg ((m27.1 x0 10) - (1 : Int32))) (fun m33 => b_X8_bind_132 sh F x0 m33))))))))))))))) else ((m.2.2 x0 46).bind (fun t7 => g_if (aB sh t7 .int v2) ((f_X8_declare sh F x0 (m.1 t7 (v2).toNatClampNeg) (-1) m).bind (fun q11 => nm q11.1 (fun r10 => nm q11.2 (fun m9 => if r10 = 0 then (some (0, m9)) else ((m9.2.2 x0 45).bind (fun t13 => g_if (aB sh t13 .int v2) (if (m9.1 t13 (v2).toNatClampNeg) = (15 : Int32) then ((m9.2.2 x0 46).bind (fun t18 => g_if (aB sh t18 .int v2) (b_X8_bind_129 sh F x0 (m9.1 t18 (v2).toNatClampNeg) x0 m9))) else ((m9.2.2 x0 44).bind (fun t16 => g_if (aB sh t16 .int v2) (b_X8_bind_129 sh F x0 (m9.1 t16 (v2).toNatClampNeg) x0 m9))))))))))))))) else ((f_X8_odd sh F x0 m).bind (fun q36 => nm q36.1 (fun r35 => nm q36.2 (fun m34 => g_if (zB r35) (some (r35, m34))))))))
set_option maxRecDepth 100000 in
set_option maxHeartbeats 4000000 in
theorem tf_X8_bind {X : gX} {w : gW} {rr : Int32} {rm : gM} (C : gC X w K_X8_bind 2 RX8 2) (hr : X.2.2.2.2.2.2.2.2.1.sig.returnType = (some .boolean)) {F : Nat} {x0 : Nat} {m : gM} (h : f_X8_bind w.2.2.2.2.1 F x0 m = some (rr, rm)) : gV X w 0 0 (gR X w (some (.int rr)) rm) 2 0 [(0, .ref x0)] [] m := by
  unfold f_X8_bind at h
  refine v_aload_n (pc := 0) C 0 0 rfl rfl rfl ?_
  obtain ⟨o1, h⟩ := g_okk h
  refine v_getI (pc := 1) C 1 rfl lf_ScopeGraphModel_217.get (g_oB o1) rfl ?_
  refine v_iconst (pc := 4) C 2 1 rfl (by decide) ?_
  refine v_isub (pc := 5) C 3 rfl ?_
  refine v_topI (fun v2 ev2 => ?_)
  replace h := g_nm h ev2
  refine v_istore_n (pc := 6) (lv' := [(1, .int v2), (0, .ref x0)]) C 4 rfl rfl (by decide) rfl ?_
  refine v_aload_n (pc := 7) C 5 1 rfl rfl rfl ?_
  refine v_getI (pc := 8) C 6 rfl lf_ScopeGraphModel_187.get (g_oB o1) rfl ?_
  refine v_iconst (pc := 11) C 7 1 rfl (by decide) ?_
  refine v_icmp_eq (pc := 12) C 8 20 rfl (by decide) (fun c3 => ?_) (fun c3 => ?_)
  · replace h := g_ifT c3 h
    refine v_aload_n (pc := 20) C 12 1 rfl rfl rfl ?_
    obtain ⟨t4, qt4, h⟩ := g_bd h
    refine v_getR (pc := 21) C 13 rfl lf_ScopeGraphModel_95 (g_oB o1) rfl qt4 ?_
    refine v_iload_n (pc := 24) C 14 0 rfl rfl rfl ?_
    obtain ⟨b5, h⟩ := g_okk h
    refine v_iald' (pc := 25) C 15 rfl b5 ?_
    refine v_bipush (pc := 26) C 16 14 rfl (by decide) ?_
    refine v_icmp_ne (pc := 28) C 17 86 rfl (by decide) (fun c6 => ?_) (fun c6 => ?_)
    · replace h := g_ifF c6 h
      refine v_aload_n (pc := 86) C 49 1 rfl rfl rfl ?_
      refine v_aload_n (pc := 87) C 50 1 rfl rfl rfl ?_
      obtain ⟨t7, qt7, h⟩ := g_bd h
      refine v_getR (pc := 88) C 51 rfl lf_ScopeGraphModel_98 (g_oB o1) rfl qt7 ?_
      refine v_iload_n (pc := 91) C 52 0 rfl rfl rfl ?_
      obtain ⟨b8, h⟩ := g_okk h
      refine v_iald' (pc := 92) C 53 rfl b8 ?_
      refine v_iconst (pc := 93) C 54 (-1) rfl (by decide) ?_
      obtain ⟨⟨r10, m9⟩, qm9, h⟩ := g_bd h
      replace h := g_nm (y := m9) (g_nm (y := r10) h rfl) rfl
      refine v_callV (pc := 94) C 55 rfl mf_X8_declare clX8 rfl im_X8_declare lm_ScopeGraphModel_242 (c_X8_declare C.2.2.2.2.2.2.2.2.2.2.2 qm9) (by decide) rfl (g_oB o1) (Nat.le_of_ble_eq_true rfl) ⟨Nat.zero_le _, Nat.zero_le _⟩ rfl ?_
      change gV X w 0 0 (gR X w (some (.int rr)) rm) 2 97 [(1, .int v2), (0, .ref x0)] [.int r10] m9
      refine v_if_ne (pc := 97) C 56 102 rfl (by decide) (fun c12 => ?_) (fun c12 => ?_)
      · replace h := g_ifF c12 h
        refine v_aload_n (pc := 102) C 59 1 rfl rfl rfl ?_
        refine v_aload_n (pc := 103) C 60 1 rfl rfl rfl ?_
        obtain ⟨t13, qt13, h⟩ := g_bd h
        refine v_getR (pc := 104) C 61 rfl lf_ScopeGraphModel_95 (g_oB o1) rfl qt13 ?_
        refine v_iload_n (pc := 107) C 62 0 rfl rfl rfl ?_
        obtain ⟨b14, h⟩ := g_okk h
        refine v_iald' (pc := 108) C 63 rfl b14 ?_
        refine v_bipush (pc := 109) C 64 15 rfl (by decide) ?_
        refine v_icmp_ne (pc := 111) C 65 123 rfl (by decide) (fun c15 => ?_) (fun c15 => ?_)
        · replace h := g_ifF c15 h
          refine v_aload_n (pc := 123) C 71 1 rfl rfl rfl ?_
          obtain ⟨t16, qt16, h⟩ := g_bd h
          refine v_getR (pc := 124) C 72 rfl lf_ScopeGraphModel_92 (g_oB o1) rfl qt16 ?_
          refine v_iload_n (pc := 127) C 73 0 rfl rfl rfl ?_
          obtain ⟨b17, h⟩ := g_okk h
          refine v_iald' (pc := 128) C 74 rfl b17 ?_
          refine v_sub [(0, .ref x0)] [1] rfl ?_
          exact tb_X8_bind_129 (F := F) C hr h
        · replace h := g_ifT c15 h
          refine v_aload_n (pc := 114) C 66 1 rfl rfl rfl ?_
          obtain ⟨t18, qt18, h⟩ := g_bd h
          refine v_getR (pc := 115) C 67 rfl lf_ScopeGraphModel_98 (g_oB o1) rfl qt18 ?_
          refine v_iload_n (pc := 118) C 68 0 rfl rfl rfl ?_
          obtain ⟨b19, h⟩ := g_okk h
          refine v_iald' (pc := 119) C 69 rfl b19 ?_
          refine v_goto (pc := 120) C 70 129 rfl (by decide) ?_
          refine v_sub [(0, .ref x0)] [1] rfl ?_
          exact tb_X8_bind_129 (F := F) C hr h
      · replace h := g_ifT c12 h
        refine v_iconst (pc := 100) C 57 0 rfl (by decide) ?_
        obtain ⟨rfl, rfl⟩ := g_so h
        exact v_zret (pc := 101) C 58 rfl hr (by decide)
    · replace h := g_ifT c6 h
      refine v_aload_n (pc := 31) C 18 1 rfl rfl rfl ?_
      refine v_aload_n (pc := 32) C 19 1 rfl rfl rfl ?_
      obtain ⟨t20, qt20, h⟩ := g_bd h
      refine v_getR (pc := 33) C 20 rfl lf_ScopeGraphModel_98 (g_oB o1) rfl qt20 ?_
      refine v_iload_n (pc := 36) C 21 0 rfl rfl rfl ?_
      obtain ⟨b21, h⟩ := g_okk h
      refine v_iald' (pc := 37) C 22 rfl b21 ?_
      refine v_putI (pc := 38) C 23 rfl lf_ScopeGraphModel_220 (g_oB o1) rfl ?_
      refine v_topM (fun m22 em22 => ?_)
      replace h := g_nm h em22
      refine v_aload_n (pc := 41) C 24 1 rfl rfl rfl ?_
      refine v_aload_n (pc := 42) C 25 1 rfl rfl rfl ?_
      refine v_getI (pc := 43) C 26 rfl lf_ScopeGraphModel_25.get (g_oB o1) rfl ?_
      refine v_iconst (pc := 46) C 27 (-1) rfl (by decide) ?_
      obtain ⟨⟨r24, m23⟩, qm23, h⟩ := g_bd h
      replace h := g_nm (y := m23) (g_nm (y := r24) h rfl) rfl
      refine v_callV (pc := 47) C 28 rfl mf_X8_declare clX8 rfl im_X8_declare lm_ScopeGraphModel_242 (c_X8_declare C.2.2.2.2.2.2.2.2.2.2.2 qm23) (by decide) rfl (g_oB o1) (Nat.le_of_ble_eq_true rfl) ⟨Nat.zero_le _, Nat.zero_le _⟩ rfl ?_
      change gV X w 0 0 (gR X w (some (.int rr)) rm) 2 50 [(1, .int v2), (0, .ref x0)] [.int r24] m23
      refine v_if_eq (pc := 50) C 29 69 rfl (by decide) (fun c26 => ?_) (fun c26 => ?_)
      · replace h := g_ifT c26 h
        refine v_iconst (pc := 69) C 38 0 rfl (by decide) ?_
        obtain ⟨rfl, rfl⟩ := g_so h
        exact v_zret (pc := 70) C 39 rfl hr (by decide)
      · replace h := g_ifF c26 h
        refine v_aload_n (pc := 53) C 30 1 rfl rfl rfl ?_
        refine v_aload_n (pc := 54) C 31 1 rfl rfl rfl ?_
        refine v_getI (pc := 55) C 32 rfl lf_ScopeGraphModel_220.get (g_oB o1) rfl ?_
        refine v_iconst (pc := 58) C 33 3 rfl (by decide) ?_
        refine v_aload_n (pc := 59) C 34 1 rfl rfl rfl ?_
        refine v_getI (pc := 60) C 35 rfl lf_ScopeGraphModel_184.get (g_oB o1) rfl ?_
        obtain ⟨⟨r28, m27⟩, qm27, h⟩ := g_bd h
        replace h := g_nm (y := m27) (g_nm (y := r28) h rfl) rfl
        refine v_callV (pc := 63) C 36 rfl mf_X8_newScope clX8 rfl im_X8_newScope lm_ScopeGraphModel_245 (c_X8_newScope C.2.2.2.2.2.2.2.2.2.2.2 qm27) (by decide) rfl (g_oB o1) (Nat.le_of_ble_eq_true rfl) ⟨Nat.zero_le _, Nat.zero_le _⟩ rfl ?_
        change gV X w 0 0 (gR X w (some (.int rr)) rm) 2 66 [(1, .int v2), (0, .ref x0)] [.int r28] m27
        refine v_if_ne (pc := 66) C 37 71 rfl (by decide) (fun c30 => ?_) (fun c30 => ?_)
        · replace h := g_ifF c30 h
          refine v_aload_n (pc := 71) C 40 1 rfl rfl rfl ?_
          obtain ⟨t31, qt31, h⟩ := g_bd h
          refine v_getR (pc := 72) C 41 rfl lf_ScopeGraphModel_98 (g_oB o1) rfl qt31 ?_
          refine v_iload_n (pc := 75) C 42 0 rfl rfl rfl ?_
          refine v_aload_n (pc := 76) C 43 1 rfl rfl rfl ?_
          refine v_getI (pc := 77) C 44 rfl lf_ScopeGraphModel_25.get (g_oB o1) rfl ?_
          refine v_iconst (pc := 80) C 45 1 rfl (by decide) ?_
          refine v_isub (pc := 81) C 46 rfl ?_
          obtain ⟨b32, h⟩ := g_okk h
          refine v_iast' (pc := 82) C 47 rfl b32 ?_
          refine v_topM (fun m33 em33 => ?_)
          replace h := g_nm h em33
          refine v_goto (pc := 83) C 48 132 rfl (by decide) ?_
          refine v_sub [(0, .ref x0)] [1] rfl ?_
          exact tb_X8_bind_132 (F := F) C hr h
        · replace h := g_ifT c30 h
          refine v_iconst (pc := 69) C 38 0 rfl (by decide) ?_
          obtain ⟨rfl, rfl⟩ := g_so h
          exact v_zret (pc := 70) C 39 rfl hr (by decide)
  · replace h := g_ifF c3 h
    refine v_aload_n (pc := 15) C 9 1 rfl rfl rfl ?_
    obtain ⟨⟨r35, m34⟩, qm34, h⟩ := g_bd h
    replace h := g_nm (y := m34) (g_nm (y := r35) h rfl) rfl
    refine v_callV (pc := 16) C 10 rfl mf_X8_odd clX8 rfl im_X8_odd lm_ScopeGraphModel_239 (c_X8_odd C.2.2.2.2.2.2.2.2.2.2.2 qm34) (by decide) rfl (g_oB o1) (Nat.le_of_ble_eq_true rfl) ⟨Nat.zero_le _, Nat.zero_le _⟩ rfl ?_
    change gV X w 0 0 (gR X w (some (.int rr)) rm) 2 19 [(1, .int v2), (0, .ref x0)] [.int r35] m34
    obtain ⟨o37, h⟩ := g_okk h
    obtain ⟨rfl, rfl⟩ := g_so h
    exact v_zret (pc := 19) C 11 rfl hr (g_zB o37)
theorem c_X8_bind {l : Launch} {w : gW} {rr : Int32} {rm : gM} (hJ : gJok w) {F : Nat} {x0 : Nat} {m : gM} (h : f_X8_bind w.2.2.2.2.1 F x0 m = some (rr, rm)) : gMet l 2 yX8_bind cX8_bind 2 (some .boolean) w [.ref x0] m (some (.int rr)) rm :=
  gMet.of hJ mf_X8_bind dk_X8_bind (Nat.le_of_ble_eq_true rfl) (fun X _ C hr => tf_X8_bind (F := F) C hr h)
def b_X8_binds_85 (sh : List gS) (F : Nat) (x0 : Nat) (y0 : Int32) (y1 : Int32) (y2 : Nat) (m : gM) : Option (Int32 × gM) :=
  g_if (aB sh y2 .int y1) (nm (gsI m y2 (y1).toNatClampNeg y0) (fun m2 => g_if (oB sh x0 8) ((f_X8_next sh F x0 m2).bind (fun q6 => nm q6.1 (fun r5 => nm q6.2 (fun m4 => if r5 = 0 then (some (0, m4)) else ((f_X8_bind sh F x0 m4).bind (fun q10 => nm q10.1 (fun r9 => nm q10.2 (fun m8 => if r9 = 0 then (some (0, m8)) else (some (1, m8))))))))))))
set_option maxRecDepth 100000 in
set_option maxHeartbeats 4000000 in
theorem tb_X8_binds_85 {X : gX} {w : gW} {rr : Int32} {rm : gM} (C : gC X w K_X8_binds 2 RX8 3) (hr : X.2.2.2.2.2.2.2.2.1.sig.returnType = (some .boolean)) {F : Nat} {x0 : Nat} {y0 : Int32} {y1 : Int32} {y2 : Nat} {m : gM} (h : b_X8_binds_85 w.2.2.2.2.1 F x0 y0 y1 y2 m = some (rr, rm)) : gV X w 0 0 (gR X w (some (.int rr)) rm) 2 85 [(0, .ref x0)] [.int y0, .int y1, .ref y2] m := by
  unfold b_X8_binds_85 at h
  obtain ⟨b1, h⟩ := g_okk h
  refine v_iast' (pc := 85) C 48 rfl b1 ?_
  refine v_topM (fun m2 em2 => ?_)
  replace h := g_nm h em2
  refine v_aload_n (pc := 86) C 49 0 rfl rfl rfl ?_
  obtain ⟨o3, h⟩ := g_okk h
  obtain ⟨⟨r5, m4⟩, qm4, h⟩ := g_bd h
  replace h := g_nm (y := m4) (g_nm (y := r5) h rfl) rfl
  refine v_callV (pc := 87) C 50 rfl mf_X8_next clX8 rfl im_X8_next lm_ScopeGraphModel_229 (c_X8_next C.2.2.2.2.2.2.2.2.2.2.2 qm4) (by decide) rfl (g_oB o3) (Nat.le_of_ble_eq_true rfl) ⟨Nat.zero_le _, Nat.zero_le _⟩ rfl ?_
  change gV X w 0 0 (gR X w (some (.int rr)) rm) 2 90 [(0, .ref x0)] [.int r5] m4
  refine v_if_eq (pc := 90) C 51 104 rfl (by decide) (fun c7 => ?_) (fun c7 => ?_)
  · replace h := g_ifT c7 h
    refine v_iconst (pc := 104) C 57 0 rfl (by decide) ?_
    obtain ⟨rfl, rfl⟩ := g_so h
    exact v_zret (pc := 105) C 58 rfl hr (by decide)
  · replace h := g_ifF c7 h
    refine v_aload_n (pc := 93) C 52 0 rfl rfl rfl ?_
    obtain ⟨⟨r9, m8⟩, qm8, h⟩ := g_bd h
    replace h := g_nm (y := m8) (g_nm (y := r9) h rfl) rfl
    refine v_callV (pc := 94) C 53 rfl mf_X8_bind clX8 rfl im_X8_bind lm_ScopeGraphModel_280 (c_X8_bind C.2.2.2.2.2.2.2.2.2.2.2 qm8) (by decide) rfl (g_oB o3) (Nat.le_of_ble_eq_true rfl) ⟨Nat.zero_le _, Nat.zero_le _⟩ rfl ?_
    change gV X w 0 0 (gR X w (some (.int rr)) rm) 2 97 [(0, .ref x0)] [.int r9] m8
    refine v_if_eq (pc := 97) C 54 104 rfl (by decide) (fun c11 => ?_) (fun c11 => ?_)
    · replace h := g_ifT c11 h
      refine v_iconst (pc := 104) C 57 0 rfl (by decide) ?_
      obtain ⟨rfl, rfl⟩ := g_so h
      exact v_zret (pc := 105) C 58 rfl hr (by decide)
    · replace h := g_ifF c11 h
      refine v_iconst (pc := 100) C 55 1 rfl (by decide) ?_
      refine v_goto (pc := 101) C 56 105 rfl (by decide) ?_
      obtain ⟨rfl, rfl⟩ := g_so h
      exact v_zret (pc := 105) C 58 rfl hr (by decide)
def b_X8_binds_39 (sh : List gS) (F : Nat) (x0 : Nat) (x1 : Int32) (m : gM) : Option (Int32 × gM) :=
  g_if (oB sh x0 8) ((f_X8_open sh F x0 4 m).bind (fun m2 => (m2.2.2 x0 45).bind (fun t4 => g_if (aB sh t4 .int ((m2.1 x0 47) - (1 : Int32))) (nm (gsI m2 t4 ((m2.1 x0 47) - (1 : Int32)).toNatClampNeg x1) (fun m6 => (m6.2.2 x0 46).bind (fun t7 => if x1 = (14 : Int32) then (b_X8_binds_85 sh F x0 (m6.1 x0 49) ((m6.1 x0 47) - (1 : Int32)) t7 m6) else (b_X8_binds_85 sh F x0 ((m6.1 x0 10) - (1 : Int32)) ((m6.1 x0 47) - (1 : Int32)) t7 m6)))))))
set_option maxRecDepth 100000 in
set_option maxHeartbeats 4000000 in
theorem tb_X8_binds_39 {X : gX} {w : gW} {rr : Int32} {rm : gM} (C : gC X w K_X8_binds 2 RX8 3) (hr : X.2.2.2.2.2.2.2.2.1.sig.returnType = (some .boolean)) {F : Nat} {x0 : Nat} {x1 : Int32} {m : gM} (h : b_X8_binds_39 w.2.2.2.2.1 F x0 x1 m = some (rr, rm)) : gV X w 0 0 (gR X w (some (.int rr)) rm) 2 39 [(0, .ref x0), (1, .int x1)] [] m := by
  unfold b_X8_binds_39 at h
  refine v_aload_n (pc := 39) C 21 0 rfl rfl rfl ?_
  refine v_iconst (pc := 40) C 22 4 rfl (by decide) ?_
  obtain ⟨o1, h⟩ := g_okk h
  obtain ⟨m2, qm2, h⟩ := g_bd h
  refine v_callV (pc := 41) C 23 rfl mf_X8_open clX8 rfl im_X8_open lm_ScopeGraphModel_255 (c_X8_open C.2.2.2.2.2.2.2.2.2.2.2 qm2) (by decide) rfl (g_oB o1) (Nat.le_of_ble_eq_true rfl) ⟨Nat.zero_le _, Nat.zero_le _⟩ rfl ?_
  change gV X w 0 0 (gR X w (some (.int rr)) rm) 2 44 [(0, .ref x0), (1, .int x1)] [] m2
  refine v_aload_n (pc := 44) C 24 0 rfl rfl rfl ?_
  obtain ⟨t4, qt4, h⟩ := g_bd h
  refine v_getR (pc := 45) C 25 rfl lf_ScopeGraphModel_95 (g_oB o1) rfl qt4 ?_
  refine v_aload_n (pc := 48) C 26 0 rfl rfl rfl ?_
  refine v_getI (pc := 49) C 27 rfl lf_ScopeGraphModel_217.get (g_oB o1) rfl ?_
  refine v_iconst (pc := 52) C 28 1 rfl (by decide) ?_
  refine v_isub (pc := 53) C 29 rfl ?_
  refine v_iload_n (pc := 54) C 30 1 rfl rfl rfl ?_
  obtain ⟨b5, h⟩ := g_okk h
  refine v_iast' (pc := 55) C 31 rfl b5 ?_
  refine v_topM (fun m6 em6 => ?_)
  replace h := g_nm h em6
  refine v_aload_n (pc := 56) C 32 0 rfl rfl rfl ?_
  obtain ⟨t7, qt7, h⟩ := g_bd h
  refine v_getR (pc := 57) C 33 rfl lf_ScopeGraphModel_98 (g_oB o1) rfl qt7 ?_
  refine v_aload_n (pc := 60) C 34 0 rfl rfl rfl ?_
  refine v_getI (pc := 61) C 35 rfl lf_ScopeGraphModel_217.get (g_oB o1) rfl ?_
  refine v_iconst (pc := 64) C 36 1 rfl (by decide) ?_
  refine v_isub (pc := 65) C 37 rfl ?_
  refine v_iload_n (pc := 66) C 38 1 rfl rfl rfl ?_
  refine v_bipush (pc := 67) C 39 14 rfl (by decide) ?_
  refine v_icmp_ne (pc := 69) C 40 79 rfl (by decide) (fun c8 => ?_) (fun c8 => ?_)
  · replace h := g_ifF c8 h
    refine v_aload_n (pc := 79) C 44 0 rfl rfl rfl ?_
    refine v_getI (pc := 80) C 45 rfl lf_ScopeGraphModel_25.get (g_oB o1) rfl ?_
    refine v_iconst (pc := 83) C 46 1 rfl (by decide) ?_
    refine v_isub (pc := 84) C 47 rfl ?_
    refine v_sub [(0, .ref x0)] [0] rfl ?_
    exact tb_X8_binds_85 (F := F) C hr h
  · replace h := g_ifT c8 h
    refine v_aload_n (pc := 72) C 41 0 rfl rfl rfl ?_
    refine v_getI (pc := 73) C 42 rfl lf_ScopeGraphModel_220.get (g_oB o1) rfl ?_
    refine v_goto (pc := 76) C 43 85 rfl (by decide) ?_
    refine v_sub [(0, .ref x0)] [0] rfl ?_
    exact tb_X8_binds_85 (F := F) C hr h
def b_X8_binds_27 (sh : List gS) (F : Nat) (x0 : Nat) (x1 : Int32) (y0 : Int32) (y1 : Int32) (y2 : Nat) (m : gM) : Option (Int32 × gM) :=
  g_if (oB sh x0 8) (g_if (oB sh y2 8) ((f_X8_newScope sh F y2 y1 y0 (m.1 x0 40) m).bind (fun q5 => nm q5.1 (fun r4 => nm q5.2 (fun m3 => if r4 = 0 then (some (0, m3)) else (b_X8_binds_39 sh F x0 x1 m3))))))
set_option maxRecDepth 100000 in
set_option maxHeartbeats 4000000 in
theorem tb_X8_binds_27 {X : gX} {w : gW} {rr : Int32} {rm : gM} (C : gC X w K_X8_binds 2 RX8 3) (hr : X.2.2.2.2.2.2.2.2.1.sig.returnType = (some .boolean)) {F : Nat} {x0 : Nat} {x1 : Int32} {y0 : Int32} {y1 : Int32} {y2 : Nat} {m : gM} (h : b_X8_binds_27 w.2.2.2.2.1 F x0 x1 y0 y1 y2 m = some (rr, rm)) : gV X w 0 0 (gR X w (some (.int rr)) rm) 2 27 [(0, .ref x0), (1, .int x1)] [.int y0, .int y1, .ref y2] m := by
  unfold b_X8_binds_27 at h
  refine v_aload_n (pc := 27) C 15 0 rfl rfl rfl ?_
  obtain ⟨o1, h⟩ := g_okk h
  refine v_getI (pc := 28) C 16 rfl lf_ScopeGraphModel_184.get (g_oB o1) rfl ?_
  obtain ⟨o2, h⟩ := g_okk h
  obtain ⟨⟨r4, m3⟩, qm3, h⟩ := g_bd h
  replace h := g_nm (y := m3) (g_nm (y := r4) h rfl) rfl
  refine v_callV (pc := 31) C 17 rfl mf_X8_newScope clX8 rfl im_X8_newScope lm_ScopeGraphModel_245 (c_X8_newScope C.2.2.2.2.2.2.2.2.2.2.2 qm3) (by decide) rfl (g_oB o2) (Nat.le_of_ble_eq_true rfl) ⟨Nat.zero_le _, Nat.zero_le _⟩ rfl ?_
  change gV X w 0 0 (gR X w (some (.int rr)) rm) 2 34 [(0, .ref x0), (1, .int x1)] [.int r4] m3
  refine v_if_ne (pc := 34) C 18 39 rfl (by decide) (fun c6 => ?_) (fun c6 => ?_)
  · replace h := g_ifF c6 h
    refine v_sub [(0, .ref x0), (1, .int x1)] [0, 1] rfl ?_
    exact tb_X8_binds_39 (F := F) C hr h
  · replace h := g_ifT c6 h
    refine v_iconst (pc := 37) C 19 0 rfl (by decide) ?_
    obtain ⟨rfl, rfl⟩ := g_so h
    exact v_zret (pc := 38) C 20 rfl hr (by decide)
def f_X8_binds (sh : List gS) (F : Nat) (x0 : Nat) (m : gM) : Option (Int32 × gM) :=
  g_if (oB sh x0 8) (nm (m.1 x0 38) (fun v2 => if v2 = (14 : Int32) then (b_X8_binds_39 sh F x0 v2 m) else (if v2 = (15 : Int32) then (b_X8_binds_27 sh F x0 v2 4 (m.1 x0 49) x0 m) else (b_X8_binds_27 sh F x0 v2 5 (m.1 x0 49) x0 m))))
set_option maxRecDepth 100000 in
set_option maxHeartbeats 4000000 in
theorem tf_X8_binds {X : gX} {w : gW} {rr : Int32} {rm : gM} (C : gC X w K_X8_binds 2 RX8 3) (hr : X.2.2.2.2.2.2.2.2.1.sig.returnType = (some .boolean)) {F : Nat} {x0 : Nat} {m : gM} (h : f_X8_binds w.2.2.2.2.1 F x0 m = some (rr, rm)) : gV X w 0 0 (gR X w (some (.int rr)) rm) 2 0 [(0, .ref x0)] [] m := by
  unfold f_X8_binds at h
  refine v_aload_n (pc := 0) C 0 0 rfl rfl rfl ?_
  obtain ⟨o1, h⟩ := g_okk h
  refine v_getI (pc := 1) C 1 rfl lf_ScopeGraphModel_187.get (g_oB o1) rfl ?_
  refine v_topI (fun v2 ev2 => ?_)
  replace h := g_nm h ev2
  refine v_istore_n (pc := 4) (lv' := [(1, .int v2), (0, .ref x0)]) C 2 rfl rfl (by decide) rfl ?_
  refine v_iload_n (pc := 5) C 3 0 rfl rfl rfl ?_
  refine v_bipush (pc := 6) C 4 14 rfl (by decide) ?_
  refine v_icmp_eq (pc := 8) C 5 39 rfl (by decide) (fun c3 => ?_) (fun c3 => ?_)
  · replace h := g_ifT c3 h
    refine v_sub [(0, .ref x0), (1, .int v2)] [1, 0] rfl ?_
    exact tb_X8_binds_39 (F := F) C hr h
  · replace h := g_ifF c3 h
    refine v_aload_n (pc := 11) C 6 1 rfl rfl rfl ?_
    refine v_aload_n (pc := 12) C 7 1 rfl rfl rfl ?_
    refine v_getI (pc := 13) C 8 rfl lf_ScopeGraphModel_220.get (g_oB o1) rfl ?_
    refine v_iload_n (pc := 16) C 9 0 rfl rfl rfl ?_
    refine v_bipush (pc := 17) C 10 15 rfl (by decide) ?_
    refine v_icmp_ne (pc := 19) C 11 26 rfl (by decide) (fun c4 => ?_) (fun c4 => ?_)
    · replace h := g_ifF c4 h
      refine v_iconst (pc := 26) C 14 5 rfl (by decide) ?_
      refine v_sub [(0, .ref x0), (1, .int v2)] [1, 0] rfl ?_
      exact tb_X8_binds_27 (F := F) C hr h
    · replace h := g_ifT c4 h
      refine v_iconst (pc := 22) C 12 4 rfl (by decide) ?_
      refine v_goto (pc := 23) C 13 27 rfl (by decide) ?_
      refine v_sub [(0, .ref x0), (1, .int v2)] [1, 0] rfl ?_
      exact tb_X8_binds_27 (F := F) C hr h
theorem c_X8_binds {l : Launch} {w : gW} {rr : Int32} {rm : gM} (hJ : gJok w) {F : Nat} {x0 : Nat} {m : gM} (h : f_X8_binds w.2.2.2.2.1 F x0 m = some (rr, rm)) : gMet l 3 yX8_binds cX8_binds 2 (some .boolean) w [.ref x0] m (some (.int rr)) rm :=
  gMet.of hJ mf_X8_binds dk_X8_binds (Nat.le_of_ble_eq_true rfl) (fun X _ C hr => tf_X8_binds (F := F) C hr h)
def f_X8_body (sh : List gS) (F : Nat) (x0 : Nat) (x1 : Int32) (m : gM) : Option (Int32 × gM) :=
  g_if (oB sh x0 8) ((f_X8_is sh F x0 123 m).bind (fun q4 => nm q4.1 (fun r3 => nm q4.2 (fun m2 => if r3 = 0 then ((f_X8_odd sh F x0 m2).bind (fun q20 => nm q20.1 (fun r19 => nm q20.2 (fun m18 => g_if (zB r19) (some (r19, m18)))))) else ((f_X8_bracket sh F x0 m2).bind (fun q8 => nm q8.1 (fun r7 => nm q8.2 (fun m6 => if r7 = 0 then (some (0, m6)) else ((f_X8_open sh F x0 3 m6).bind (fun m10 => nm (gsI m10 x0 49 x1) (fun m12 => nm (gsI m12 x0 51 0) (fun m13 => (f_X8_next sh F x0 m13).bind (fun q16 => nm q16.1 (fun r15 => nm q16.2 (fun m14 => g_if (zB r15) (some (r15, m14)))))))))))))))))
set_option maxRecDepth 100000 in
set_option maxHeartbeats 4000000 in
theorem tf_X8_body {X : gX} {w : gW} {rr : Int32} {rm : gM} (C : gC X w K_X8_body 2 RX8 2) (hr : X.2.2.2.2.2.2.2.2.1.sig.returnType = (some .boolean)) {F : Nat} {x0 : Nat} {x1 : Int32} {m : gM} (h : f_X8_body w.2.2.2.2.1 F x0 x1 m = some (rr, rm)) : gV X w 0 0 (gR X w (some (.int rr)) rm) 2 0 [(0, .ref x0), (1, .int x1)] [] m := by
  unfold f_X8_body at h
  refine v_aload_n (pc := 0) C 0 0 rfl rfl rfl ?_
  refine v_bipush (pc := 1) C 1 123 rfl (by decide) ?_
  obtain ⟨o1, h⟩ := g_okk h
  obtain ⟨⟨r3, m2⟩, qm2, h⟩ := g_bd h
  replace h := g_nm (y := m2) (g_nm (y := r3) h rfl) rfl
  refine v_callV (pc := 3) C 2 rfl mf_X8_is clX8 rfl im_X8_is lm_ScopeGraphModel_249 (c_X8_is C.2.2.2.2.2.2.2.2.2.2.2 qm2) (by decide) rfl (g_oB o1) (Nat.le_of_ble_eq_true rfl) ⟨Nat.zero_le _, Nat.zero_le _⟩ rfl ?_
  change gV X w 0 0 (gR X w (some (.int rr)) rm) 2 6 [(0, .ref x0), (1, .int x1)] [.int r3] m2
  refine v_if_ne (pc := 6) C 3 14 rfl (by decide) (fun c5 => ?_) (fun c5 => ?_)
  · replace h := g_ifF c5 h
    refine v_aload_n (pc := 14) C 7 0 rfl rfl rfl ?_
    obtain ⟨⟨r7, m6⟩, qm6, h⟩ := g_bd h
    replace h := g_nm (y := m6) (g_nm (y := r7) h rfl) rfl
    refine v_callV (pc := 15) C 8 rfl mf_X8_bracket clX8 rfl im_X8_bracket lm_ScopeGraphModel_252 (c_X8_bracket C.2.2.2.2.2.2.2.2.2.2.2 qm6) (by decide) rfl (g_oB o1) (Nat.le_of_ble_eq_true rfl) ⟨Nat.zero_le _, Nat.zero_le _⟩ rfl ?_
    change gV X w 0 0 (gR X w (some (.int rr)) rm) 2 18 [(0, .ref x0), (1, .int x1)] [.int r7] m6
    refine v_if_ne (pc := 18) C 9 23 rfl (by decide) (fun c9 => ?_) (fun c9 => ?_)
    · replace h := g_ifF c9 h
      refine v_aload_n (pc := 23) C 12 0 rfl rfl rfl ?_
      refine v_iconst (pc := 24) C 13 3 rfl (by decide) ?_
      obtain ⟨m10, qm10, h⟩ := g_bd h
      refine v_callV (pc := 25) C 14 rfl mf_X8_open clX8 rfl im_X8_open lm_ScopeGraphModel_255 (c_X8_open C.2.2.2.2.2.2.2.2.2.2.2 qm10) (by decide) rfl (g_oB o1) (Nat.le_of_ble_eq_true rfl) ⟨Nat.zero_le _, Nat.zero_le _⟩ rfl ?_
      change gV X w 0 0 (gR X w (some (.int rr)) rm) 2 28 [(0, .ref x0), (1, .int x1)] [] m10
      refine v_aload_n (pc := 28) C 15 0 rfl rfl rfl ?_
      refine v_iload_n (pc := 29) C 16 1 rfl rfl rfl ?_
      refine v_putI (pc := 30) C 17 rfl lf_ScopeGraphModel_220 (g_oB o1) rfl ?_
      refine v_topM (fun m12 em12 => ?_)
      replace h := g_nm h em12
      refine v_aload_n (pc := 33) C 18 0 rfl rfl rfl ?_
      refine v_iconst (pc := 34) C 19 0 rfl (by decide) ?_
      refine v_putI (pc := 35) C 20 rfl lf_ScopeGraphModel_261 (g_oB o1) rfl ?_
      refine v_topM (fun m13 em13 => ?_)
      replace h := g_nm h em13
      refine v_aload_n (pc := 38) C 21 0 rfl rfl rfl ?_
      obtain ⟨⟨r15, m14⟩, qm14, h⟩ := g_bd h
      replace h := g_nm (y := m14) (g_nm (y := r15) h rfl) rfl
      refine v_callV (pc := 39) C 22 rfl mf_X8_next clX8 rfl im_X8_next lm_ScopeGraphModel_229 (c_X8_next C.2.2.2.2.2.2.2.2.2.2.2 qm14) (by decide) rfl (g_oB o1) (Nat.le_of_ble_eq_true rfl) ⟨Nat.zero_le _, Nat.zero_le _⟩ rfl ?_
      change gV X w 0 0 (gR X w (some (.int rr)) rm) 2 42 [(0, .ref x0), (1, .int x1)] [.int r15] m14
      obtain ⟨o17, h⟩ := g_okk h
      obtain ⟨rfl, rfl⟩ := g_so h
      exact v_zret (pc := 42) C 23 rfl hr (g_zB o17)
    · replace h := g_ifT c9 h
      refine v_iconst (pc := 21) C 10 0 rfl (by decide) ?_
      obtain ⟨rfl, rfl⟩ := g_so h
      exact v_zret (pc := 22) C 11 rfl hr (by decide)
  · replace h := g_ifT c5 h
    refine v_aload_n (pc := 9) C 4 0 rfl rfl rfl ?_
    obtain ⟨⟨r19, m18⟩, qm18, h⟩ := g_bd h
    replace h := g_nm (y := m18) (g_nm (y := r19) h rfl) rfl
    refine v_callV (pc := 10) C 5 rfl mf_X8_odd clX8 rfl im_X8_odd lm_ScopeGraphModel_239 (c_X8_odd C.2.2.2.2.2.2.2.2.2.2.2 qm18) (by decide) rfl (g_oB o1) (Nat.le_of_ble_eq_true rfl) ⟨Nat.zero_le _, Nat.zero_le _⟩ rfl ?_
    change gV X w 0 0 (gR X w (some (.int rr)) rm) 2 13 [(0, .ref x0), (1, .int x1)] [.int r19] m18
    obtain ⟨o21, h⟩ := g_okk h
    obtain ⟨rfl, rfl⟩ := g_so h
    exact v_zret (pc := 13) C 6 rfl hr (g_zB o21)
theorem c_X8_body {l : Launch} {w : gW} {rr : Int32} {rm : gM} (hJ : gJok w) {F : Nat} {x0 : Nat} {x1 : Int32} {m : gM} (h : f_X8_body w.2.2.2.2.1 F x0 x1 m = some (rr, rm)) : gMet l 2 yX8_body cX8_body 2 (some .boolean) w [.ref x0, .int x1] m (some (.int rr)) rm :=
  gMet.of hJ mf_X8_body dk_X8_body (Nat.le_of_ble_eq_true rfl) (fun X _ C hr => tf_X8_body (F := F) C hr h)
