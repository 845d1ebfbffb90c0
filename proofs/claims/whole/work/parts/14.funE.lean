def b_X8_nameAt_46 (sh : List gS) (F : Nat) (k46 : Nat → Int32 → Int32 → Int32 → gM → Option (Int32 × gM)) (x0 : Nat) (x1 : Int32) (x2 : Int32) (x3 : Int32) (m : gM) : Option (Int32 × gM) :=
  g_if (oB sh x0 8) (if (m.1 x0 20) ≤ x3 then (some (x1, m)) else ((m.2.2 x0 17).bind (fun t3 => g_if (aB sh t3 .int x3) ((m.2.2 x0 18).bind (fun t5 => g_if (aB sh t5 .int x3) ((f_X8_isSame sh F x0 (m.1 t3 (x3).toNatClampNeg) (m.1 t5 (x3).toNatClampNeg) x1 x2 m).bind (fun q9 => nm q9.1 (fun r8 => nm q9.2 (fun m7 => if r8 = 0 then (nm (x3 + Int32.ofInt 1) (fun v11 => k46 x0 x1 x2 v11 m7)) else ((m7.2.2 x0 17).bind (fun t12 => g_if (aB sh t12 .int x3) (some (m7.1 t12 (x3).toNatClampNeg, m7)))))))))))))
set_option maxRecDepth 100000 in
set_option maxHeartbeats 4000000 in
theorem tb_X8_nameAt_46 {X : gX} {w : gW} {rr : Int32} {rm : gM} (C : gC X w K_X8_nameAt 4 RX8 1) (hr : X.2.2.2.2.2.2.2.2.1.sig.returnType = (some .int)) {F : Nat} {k46 : Nat → Int32 → Int32 → Int32 → gM → Option (Int32 × gM)} (hk46 : ∀ (z0 : Nat) (z1 : Int32) (z2 : Int32) (z3 : Int32) (m : gM), k46 z0 z1 z2 z3 m = some (rr, rm) → gV X w 0 0 (gR X w (some (.int rr)) rm) 4 46 [(0, .ref z0), (1, .int z1), (2, .int z2), (3, .int z3)] [] m) {x0 : Nat} {x1 : Int32} {x2 : Int32} {x3 : Int32} {m : gM} (h : b_X8_nameAt_46 w.2.2.2.2.1 F k46 x0 x1 x2 x3 m = some (rr, rm)) : gV X w 0 0 (gR X w (some (.int rr)) rm) 4 46 [(0, .ref x0), (1, .int x1), (2, .int x2), (3, .int x3)] [] m := by
  unfold b_X8_nameAt_46 at h
  refine v_iload_n (pc := 46) C 28 3 rfl rfl rfl ?_
  refine v_aload_n (pc := 47) C 29 0 rfl rfl rfl ?_
  obtain ⟨o1, h⟩ := g_okk h
  refine v_getI (pc := 48) C 30 rfl lf_ScopeGraphModel_223.get (g_oB o1) rfl ?_
  refine v_icmp_ge (pc := 51) C 31 88 rfl (by decide) (fun c2 => ?_) (fun c2 => ?_)
  · replace h := g_ifT c2 h
    refine v_iload_n (pc := 88) C 52 1 rfl rfl rfl ?_
    obtain ⟨rfl, rfl⟩ := g_so h
    exact v_iret (pc := 89) C 53 rfl hr
  · replace h := g_ifF c2 h
    refine v_aload_n (pc := 54) C 32 0 rfl rfl rfl ?_
    refine v_aload_n (pc := 55) C 33 0 rfl rfl rfl ?_
    obtain ⟨t3, qt3, h⟩ := g_bd h
    refine v_getR (pc := 56) C 34 rfl lf_ScopeGraphModel_44 (g_oB o1) rfl qt3 ?_
    refine v_iload_n (pc := 59) C 35 3 rfl rfl rfl ?_
    obtain ⟨b4, h⟩ := g_okk h
    refine v_iald' (pc := 60) C 36 rfl b4 ?_
    refine v_aload_n (pc := 61) C 37 0 rfl rfl rfl ?_
    obtain ⟨t5, qt5, h⟩ := g_bd h
    refine v_getR (pc := 62) C 38 rfl lf_ScopeGraphModel_47 (g_oB o1) rfl qt5 ?_
    refine v_iload_n (pc := 65) C 39 3 rfl rfl rfl ?_
    obtain ⟨b6, h⟩ := g_okk h
    refine v_iald' (pc := 66) C 40 rfl b6 ?_
    refine v_iload_n (pc := 67) C 41 1 rfl rfl rfl ?_
    refine v_iload_n (pc := 68) C 42 2 rfl rfl rfl ?_
    obtain ⟨⟨r8, m7⟩, qm7, h⟩ := g_bd h
    replace h := g_nm (y := m7) (g_nm (y := r8) h rfl) rfl
    refine v_callV (pc := 69) C 43 rfl mf_X8_isSame clX8 rfl im_X8_isSame lm_ScopeGraphModel_313 (c_X8_isSame C.2.2.2.2.2.2.2.2.2.2.2 qm7) (by decide) rfl (g_oB o1) (Nat.le_of_ble_eq_true rfl) ⟨Nat.zero_le _, Nat.zero_le _⟩ rfl ?_
    change gV X w 0 0 (gR X w (some (.int rr)) rm) 4 72 [(0, .ref x0), (1, .int x1), (2, .int x2), (3, .int x3)] [.int r8] m7
    refine v_if_eq (pc := 72) C 44 82 rfl (by decide) (fun c10 => ?_) (fun c10 => ?_)
    · replace h := g_ifT c10 h
      refine v_iincN (pc := 82) C 50 3 (fun v11 => [(3, .int v11), (0, .ref x0), (1, .int x1), (2, .int x2)]) rfl rfl (by decide) (fun _ => rfl) (fun v11 ev11 => ?_)
      replace h := g_nm h ev11
      refine v_goto (pc := 85) C 51 46 rfl (by decide) ?_
      refine v_sub [(0, .ref x0), (1, .int x1), (2, .int x2), (3, .int v11)] [1, 2, 3, 0] rfl ?_
      exact hk46 _ _ _ _ _ h
    · replace h := g_ifF c10 h
      refine v_aload_n (pc := 75) C 45 0 rfl rfl rfl ?_
      obtain ⟨t12, qt12, h⟩ := g_bd h
      refine v_getR (pc := 76) C 46 rfl lf_ScopeGraphModel_44 (g_oB o1) rfl qt12 ?_
      refine v_iload_n (pc := 79) C 47 3 rfl rfl rfl ?_
      obtain ⟨b13, h⟩ := g_okk h
      refine v_iald' (pc := 80) C 48 rfl b13 ?_
      obtain ⟨rfl, rfl⟩ := g_so h
      exact v_iret (pc := 81) C 49 rfl hr
def l_X8_nameAt_46 (sh : List gS) (F : Nat) : Nat → Nat → Int32 → Int32 → Int32 → gM → Option (Int32 × gM)
  | 0 => fun _ _ _ _ _ => none
  | n + 1 => fun x0 x1 x2 x3 m => b_X8_nameAt_46 sh F (l_X8_nameAt_46 sh F n) x0 x1 x2 x3 m
theorem tl_X8_nameAt_46 {X : gX} {w : gW} {rr : Int32} {rm : gM} (C : gC X w K_X8_nameAt 4 RX8 1) (hr : X.2.2.2.2.2.2.2.2.1.sig.returnType = (some .int)) {F : Nat} : ∀ (n : Nat) (x0 : Nat) (x1 : Int32) (x2 : Int32) (x3 : Int32) (m : gM), l_X8_nameAt_46 w.2.2.2.2.1 F n x0 x1 x2 x3 m = some (rr, rm) → gV X w 0 0 (gR X w (some (.int rr)) rm) 4 46 [(0, .ref x0), (1, .int x1), (2, .int x2), (3, .int x3)] [] m := by
  intro n
  induction n with
  | zero => intro x0 x1 x2 x3 m h; cases h
  | succ n ih => intro x0 x1 x2 x3 m h; exact tb_X8_nameAt_46 (F := F) C hr ih h
def b_X8_nameAt_2 (sh : List gS) (F : Nat) (k2 : Nat → Int32 → Int32 → Int32 → gM → Option (Int32 × gM)) (x0 : Nat) (x1 : Int32) (x2 : Int32) (x3 : Int32) (m : gM) : Option (Int32 × gM) :=
  g_if (oB sh x0 8) (if (m.1 x0 15) ≤ x3 then (l_X8_nameAt_46 sh F F x0 x1 x2 0 m) else ((m.2.2 x0 12).bind (fun t3 => g_if (aB sh t3 .int x3) ((m.2.2 x0 13).bind (fun t5 => g_if (aB sh t5 .int x3) ((f_X8_isSame sh F x0 (m.1 t3 (x3).toNatClampNeg) (m.1 t5 (x3).toNatClampNeg) x1 x2 m).bind (fun q9 => nm q9.1 (fun r8 => nm q9.2 (fun m7 => if r8 = 0 then (nm (x3 + Int32.ofInt 1) (fun v11 => k2 x0 x1 x2 v11 m7)) else ((m7.2.2 x0 12).bind (fun t12 => g_if (aB sh t12 .int x3) (some (m7.1 t12 (x3).toNatClampNeg, m7)))))))))))))
set_option maxRecDepth 100000 in
set_option maxHeartbeats 4000000 in
theorem tb_X8_nameAt_2 {X : gX} {w : gW} {rr : Int32} {rm : gM} (C : gC X w K_X8_nameAt 4 RX8 1) (hr : X.2.2.2.2.2.2.2.2.1.sig.returnType = (some .int)) {F : Nat} {k2 : Nat → Int32 → Int32 → Int32 → gM → Option (Int32 × gM)} (hk2 : ∀ (z0 : Nat) (z1 : Int32) (z2 : Int32) (z3 : Int32) (m : gM), k2 z0 z1 z2 z3 m = some (rr, rm) → gV X w 0 0 (gR X w (some (.int rr)) rm) 4 2 [(0, .ref z0), (1, .int z1), (2, .int z2), (3, .int z3)] [] m) {x0 : Nat} {x1 : Int32} {x2 : Int32} {x3 : Int32} {m : gM} (h : b_X8_nameAt_2 w.2.2.2.2.1 F k2 x0 x1 x2 x3 m = some (rr, rm)) : gV X w 0 0 (gR X w (some (.int rr)) rm) 4 2 [(0, .ref x0), (1, .int x1), (2, .int x2), (3, .int x3)] [] m := by
  unfold b_X8_nameAt_2 at h
  refine v_iload_n (pc := 2) C 2 3 rfl rfl rfl ?_
  refine v_aload_n (pc := 3) C 3 0 rfl rfl rfl ?_
  obtain ⟨o1, h⟩ := g_okk h
  refine v_getI (pc := 4) C 4 rfl lf_ScopeGraphModel_211.get (g_oB o1) rfl ?_
  refine v_icmp_ge (pc := 7) C 5 44 rfl (by decide) (fun c2 => ?_) (fun c2 => ?_)
  · replace h := g_ifT c2 h
    refine v_iconst (pc := 44) C 26 0 rfl (by decide) ?_
    refine v_istore_n (pc := 45) (lv' := [(3, .int 0), (0, .ref x0), (1, .int x1), (2, .int x2)]) C 27 rfl rfl (by decide) rfl ?_
    refine v_sub [(0, .ref x0), (1, .int x1), (2, .int x2), (3, .int 0)] [1, 2, 3, 0] rfl ?_
    exact tl_X8_nameAt_46 (F := F) C hr _ _ _ _ _ _ h
  · replace h := g_ifF c2 h
    refine v_aload_n (pc := 10) C 6 0 rfl rfl rfl ?_
    refine v_aload_n (pc := 11) C 7 0 rfl rfl rfl ?_
    obtain ⟨t3, qt3, h⟩ := g_bd h
    refine v_getR (pc := 12) C 8 rfl lf_ScopeGraphModel_32 (g_oB o1) rfl qt3 ?_
    refine v_iload_n (pc := 15) C 9 3 rfl rfl rfl ?_
    obtain ⟨b4, h⟩ := g_okk h
    refine v_iald' (pc := 16) C 10 rfl b4 ?_
    refine v_aload_n (pc := 17) C 11 0 rfl rfl rfl ?_
    obtain ⟨t5, qt5, h⟩ := g_bd h
    refine v_getR (pc := 18) C 12 rfl lf_ScopeGraphModel_35 (g_oB o1) rfl qt5 ?_
    refine v_iload_n (pc := 21) C 13 3 rfl rfl rfl ?_
    obtain ⟨b6, h⟩ := g_okk h
    refine v_iald' (pc := 22) C 14 rfl b6 ?_
    refine v_iload_n (pc := 23) C 15 1 rfl rfl rfl ?_
    refine v_iload_n (pc := 24) C 16 2 rfl rfl rfl ?_
    obtain ⟨⟨r8, m7⟩, qm7, h⟩ := g_bd h
    replace h := g_nm (y := m7) (g_nm (y := r8) h rfl) rfl
    refine v_callV (pc := 25) C 17 rfl mf_X8_isSame clX8 rfl im_X8_isSame lm_ScopeGraphModel_313 (c_X8_isSame C.2.2.2.2.2.2.2.2.2.2.2 qm7) (by decide) rfl (g_oB o1) (Nat.le_of_ble_eq_true rfl) ⟨Nat.zero_le _, Nat.zero_le _⟩ rfl ?_
    change gV X w 0 0 (gR X w (some (.int rr)) rm) 4 28 [(0, .ref x0), (1, .int x1), (2, .int x2), (3, .int x3)] [.int r8] m7
    refine v_if_eq (pc := 28) C 18 38 rfl (by decide) (fun c10 => ?_) (fun c10 => ?_)
    · replace h := g_ifT c10 h
      refine v_iincN (pc := 38) C 24 3 (fun v11 => [(3, .int v11), (0, .ref x0), (1, .int x1), (2, .int x2)]) rfl rfl (by decide) (fun _ => rfl) (fun v11 ev11 => ?_)
      replace h := g_nm h ev11
      refine v_goto (pc := 41) C 25 2 rfl (by decide) ?_
      refine v_sub [(0, .ref x0), (1, .int x1), (2, .int x2), (3, .int v11)] [1, 2, 3, 0] rfl ?_
      exact hk2 _ _ _ _ _ h
    · replace h := g_ifF c10 h
      refine v_aload_n (pc := 31) C 19 0 rfl rfl rfl ?_
      obtain ⟨t12, qt12, h⟩ := g_bd h
      refine v_getR (pc := 32) C 20 rfl lf_ScopeGraphModel_32 (g_oB o1) rfl qt12 ?_
      refine v_iload_n (pc := 35) C 21 3 rfl rfl rfl ?_
      obtain ⟨b13, h⟩ := g_okk h
      refine v_iald' (pc := 36) C 22 rfl b13 ?_
      obtain ⟨rfl, rfl⟩ := g_so h
      exact v_iret (pc := 37) C 23 rfl hr
def l_X8_nameAt_2 (sh : List gS) (F : Nat) : Nat → Nat → Int32 → Int32 → Int32 → gM → Option (Int32 × gM)
  | 0 => fun _ _ _ _ _ => none
  | n + 1 => fun x0 x1 x2 x3 m => b_X8_nameAt_2 sh F (l_X8_nameAt_2 sh F n) x0 x1 x2 x3 m
theorem tl_X8_nameAt_2 {X : gX} {w : gW} {rr : Int32} {rm : gM} (C : gC X w K_X8_nameAt 4 RX8 1) (hr : X.2.2.2.2.2.2.2.2.1.sig.returnType = (some .int)) {F : Nat} : ∀ (n : Nat) (x0 : Nat) (x1 : Int32) (x2 : Int32) (x3 : Int32) (m : gM), l_X8_nameAt_2 w.2.2.2.2.1 F n x0 x1 x2 x3 m = some (rr, rm) → gV X w 0 0 (gR X w (some (.int rr)) rm) 4 2 [(0, .ref x0), (1, .int x1), (2, .int x2), (3, .int x3)] [] m := by
  intro n
  induction n with
  | zero => intro x0 x1 x2 x3 m h; cases h
  | succ n ih => intro x0 x1 x2 x3 m h; exact tb_X8_nameAt_2 (F := F) C hr ih h
def f_X8_nameAt (sh : List gS) (F : Nat) (x0 : Nat) (x1 : Int32) (x2 : Int32) (m : gM) : Option (Int32 × gM) :=
  l_X8_nameAt_2 sh F F x0 x1 x2 0 m
set_option maxRecDepth 100000 in
set_option maxHeartbeats 4000000 in
theorem tf_X8_nameAt {X : gX} {w : gW} {rr : Int32} {rm : gM} (C : gC X w K_X8_nameAt 4 RX8 1) (hr : X.2.2.2.2.2.2.2.2.1.sig.returnType = (some .int)) {F : Nat} {x0 : Nat} {x1 : Int32} {x2 : Int32} {m : gM} (h : f_X8_nameAt w.2.2.2.2.1 F x0 x1 x2 m = some (rr, rm)) : gV X w 0 0 (gR X w (some (.int rr)) rm) 4 0 [(0, .ref x0), (1, .int x1), (2, .int x2)] [] m := by
  unfold f_X8_nameAt at h
  refine v_iconst (pc := 0) C 0 0 rfl (by decide) ?_
  refine v_istore_n (pc := 1) (lv' := [(3, .int 0), (0, .ref x0), (1, .int x1), (2, .int x2)]) C 1 rfl rfl (by decide) rfl ?_
  refine v_sub [(0, .ref x0), (1, .int x1), (2, .int x2), (3, .int 0)] [1, 2, 3, 0] rfl ?_
  exact tl_X8_nameAt_2 (F := F) C hr _ _ _ _ _ _ h
theorem c_X8_nameAt {l : Launch} {w : gW} {rr : Int32} {rm : gM} (hJ : gJok w) {F : Nat} {x0 : Nat} {x1 : Int32} {x2 : Int32} {m : gM} (h : f_X8_nameAt w.2.2.2.2.1 F x0 x1 x2 m = some (rr, rm)) : gMet l 1 yX8_nameAt cX8_nameAt 4 (some .int) w [.ref x0, .int x1, .int x2] m (some (.int rr)) rm :=
  gMet.of hJ mf_X8_nameAt dk_X8_nameAt (Nat.le_of_ble_eq_true rfl) (fun X _ C hr => tf_X8_nameAt (F := F) C hr h)
def b_X8_nameAll_40 (sh : List gS) (F : Nat) (k40 : Nat → Int32 → gM → Option (gM)) (x0 : Nat) (x1 : Int32) (m : gM) : Option (gM) :=
  g_if (oB sh x0 8) (if (m.1 x0 20) ≤ x1 then (some m) else ((m.2.2 x0 53).bind (fun t3 => (m.2.2 x0 17).bind (fun t4 => g_if (aB sh t4 .int x1) ((m.2.2 x0 18).bind (fun t6 => g_if (aB sh t6 .int x1) ((f_X8_nameAt sh F x0 (m.1 t4 (x1).toNatClampNeg) (m.1 t6 (x1).toNatClampNeg) m).bind (fun q10 => nm q10.1 (fun r9 => nm q10.2 (fun m8 => g_if (aB sh t3 .int x1) (nm (gsI m8 t3 (x1).toNatClampNeg r9) (fun m12 => nm (x1 + Int32.ofInt 1) (fun v13 => k40 x0 v13 m12)))))))))))))
set_option maxRecDepth 100000 in
set_option maxHeartbeats 4000000 in
theorem tb_X8_nameAll_40 {X : gX} {w : gW} {rm : gM} (C : gC X w K_X8_nameAll 2 RX8 2) (hr : X.2.2.2.2.2.2.2.2.1.sig.returnType = none) {F : Nat} {k40 : Nat → Int32 → gM → Option (gM)} (hk40 : ∀ (z0 : Nat) (z1 : Int32) (m : gM), k40 z0 z1 m = some rm → gV X w 0 0 (gR X w none rm) 2 40 [(0, .ref z0), (1, .int z1)] [] m) {x0 : Nat} {x1 : Int32} {m : gM} (h : b_X8_nameAll_40 w.2.2.2.2.1 F k40 x0 x1 m = some rm) : gV X w 0 0 (gR X w none rm) 2 40 [(0, .ref x0), (1, .int x1)] [] m := by
  unfold b_X8_nameAll_40 at h
  refine v_iload_n (pc := 40) C 24 1 rfl rfl rfl ?_
  refine v_aload_n (pc := 41) C 25 0 rfl rfl rfl ?_
  obtain ⟨o1, h⟩ := g_okk h
  refine v_getI (pc := 42) C 26 rfl lf_ScopeGraphModel_223.get (g_oB o1) rfl ?_
  refine v_icmp_ge (pc := 45) C 27 76 rfl (by decide) (fun c2 => ?_) (fun c2 => ?_)
  · replace h := g_ifT c2 h
    cases g_s1' h
    exact v_vret (pc := 76) C 44 rfl hr
  · replace h := g_ifF c2 h
    refine v_aload_n (pc := 48) C 28 0 rfl rfl rfl ?_
    obtain ⟨t3, qt3, h⟩ := g_bd h
    refine v_getR (pc := 49) C 29 rfl lf_ScopeGraphModel_104 (g_oB o1) rfl qt3 ?_
    refine v_iload_n (pc := 52) C 30 1 rfl rfl rfl ?_
    refine v_aload_n (pc := 53) C 31 0 rfl rfl rfl ?_
    refine v_aload_n (pc := 54) C 32 0 rfl rfl rfl ?_
    obtain ⟨t4, qt4, h⟩ := g_bd h
    refine v_getR (pc := 55) C 33 rfl lf_ScopeGraphModel_44 (g_oB o1) rfl qt4 ?_
    refine v_iload_n (pc := 58) C 34 1 rfl rfl rfl ?_
    obtain ⟨b5, h⟩ := g_okk h
    refine v_iald' (pc := 59) C 35 rfl b5 ?_
    refine v_aload_n (pc := 60) C 36 0 rfl rfl rfl ?_
    obtain ⟨t6, qt6, h⟩ := g_bd h
    refine v_getR (pc := 61) C 37 rfl lf_ScopeGraphModel_47 (g_oB o1) rfl qt6 ?_
    refine v_iload_n (pc := 64) C 38 1 rfl rfl rfl ?_
    obtain ⟨b7, h⟩ := g_okk h
    refine v_iald' (pc := 65) C 39 rfl b7 ?_
    obtain ⟨⟨r9, m8⟩, qm8, h⟩ := g_bd h
    replace h := g_nm (y := m8) (g_nm (y := r9) h rfl) rfl
    refine v_callV (pc := 66) C 40 rfl mf_X8_nameAt clX8 rfl im_X8_nameAt lm_ScopeGraphModel_317 (c_X8_nameAt C.2.2.2.2.2.2.2.2.2.2.2 qm8) (by decide) rfl (g_oB o1) (Nat.le_of_ble_eq_true rfl) ⟨Nat.zero_le _, Nat.zero_le _⟩ rfl ?_
    change gV X w 0 0 (gR X w none rm) 2 69 [(0, .ref x0), (1, .int x1)] [.int r9, .int x1, .ref t3] m8
    obtain ⟨b11, h⟩ := g_okk h
    refine v_iast' (pc := 69) C 41 rfl b11 ?_
    refine v_topM (fun m12 em12 => ?_)
    replace h := g_nm h em12
    refine v_iincN (pc := 70) C 42 1 (fun v13 => [(1, .int v13), (0, .ref x0)]) rfl rfl (by decide) (fun _ => rfl) (fun v13 ev13 => ?_)
    replace h := g_nm h ev13
    refine v_goto (pc := 73) C 43 40 rfl (by decide) ?_
    refine v_sub [(0, .ref x0), (1, .int v13)] [1, 0] rfl ?_
    exact hk40 _ _ _ h
def l_X8_nameAll_40 (sh : List gS) (F : Nat) : Nat → Nat → Int32 → gM → Option (gM)
  | 0 => fun _ _ _ => none
  | n + 1 => fun x0 x1 m => b_X8_nameAll_40 sh F (l_X8_nameAll_40 sh F n) x0 x1 m
theorem tl_X8_nameAll_40 {X : gX} {w : gW} {rm : gM} (C : gC X w K_X8_nameAll 2 RX8 2) (hr : X.2.2.2.2.2.2.2.2.1.sig.returnType = none) {F : Nat} : ∀ (n : Nat) (x0 : Nat) (x1 : Int32) (m : gM), l_X8_nameAll_40 w.2.2.2.2.1 F n x0 x1 m = some rm → gV X w 0 0 (gR X w none rm) 2 40 [(0, .ref x0), (1, .int x1)] [] m := by
  intro n
  induction n with
  | zero => intro x0 x1 m h; cases h
  | succ n ih => intro x0 x1 m h; exact tb_X8_nameAll_40 (F := F) C hr ih h
def b_X8_nameAll_2 (sh : List gS) (F : Nat) (k2 : Nat → Int32 → gM → Option (gM)) (x0 : Nat) (x1 : Int32) (m : gM) : Option (gM) :=
  g_if (oB sh x0 8) (if (m.1 x0 15) ≤ x1 then (l_X8_nameAll_40 sh F F x0 0 m) else ((m.2.2 x0 52).bind (fun t3 => (m.2.2 x0 12).bind (fun t4 => g_if (aB sh t4 .int x1) ((m.2.2 x0 13).bind (fun t6 => g_if (aB sh t6 .int x1) ((f_X8_nameAt sh F x0 (m.1 t4 (x1).toNatClampNeg) (m.1 t6 (x1).toNatClampNeg) m).bind (fun q10 => nm q10.1 (fun r9 => nm q10.2 (fun m8 => g_if (aB sh t3 .int x1) (nm (gsI m8 t3 (x1).toNatClampNeg r9) (fun m12 => nm (x1 + Int32.ofInt 1) (fun v13 => k2 x0 v13 m12)))))))))))))
set_option maxRecDepth 100000 in
set_option maxHeartbeats 4000000 in
theorem tb_X8_nameAll_2 {X : gX} {w : gW} {rm : gM} (C : gC X w K_X8_nameAll 2 RX8 2) (hr : X.2.2.2.2.2.2.2.2.1.sig.returnType = none) {F : Nat} {k2 : Nat → Int32 → gM → Option (gM)} (hk2 : ∀ (z0 : Nat) (z1 : Int32) (m : gM), k2 z0 z1 m = some rm → gV X w 0 0 (gR X w none rm) 2 2 [(0, .ref z0), (1, .int z1)] [] m) {x0 : Nat} {x1 : Int32} {m : gM} (h : b_X8_nameAll_2 w.2.2.2.2.1 F k2 x0 x1 m = some rm) : gV X w 0 0 (gR X w none rm) 2 2 [(0, .ref x0), (1, .int x1)] [] m := by
  unfold b_X8_nameAll_2 at h
  refine v_iload_n (pc := 2) C 2 1 rfl rfl rfl ?_
  refine v_aload_n (pc := 3) C 3 0 rfl rfl rfl ?_
  obtain ⟨o1, h⟩ := g_okk h
  refine v_getI (pc := 4) C 4 rfl lf_ScopeGraphModel_211.get (g_oB o1) rfl ?_
  refine v_icmp_ge (pc := 7) C 5 38 rfl (by decide) (fun c2 => ?_) (fun c2 => ?_)
  · replace h := g_ifT c2 h
    refine v_iconst (pc := 38) C 22 0 rfl (by decide) ?_
    refine v_istore_n (pc := 39) (lv' := [(1, .int 0), (0, .ref x0)]) C 23 rfl rfl (by decide) rfl ?_
    refine v_sub [(0, .ref x0), (1, .int 0)] [1, 0] rfl ?_
    exact tl_X8_nameAll_40 (F := F) C hr _ _ _ _ h
  · replace h := g_ifF c2 h
    refine v_aload_n (pc := 10) C 6 0 rfl rfl rfl ?_
    obtain ⟨t3, qt3, h⟩ := g_bd h
    refine v_getR (pc := 11) C 7 rfl lf_ScopeGraphModel_101 (g_oB o1) rfl qt3 ?_
    refine v_iload_n (pc := 14) C 8 1 rfl rfl rfl ?_
    refine v_aload_n (pc := 15) C 9 0 rfl rfl rfl ?_
    refine v_aload_n (pc := 16) C 10 0 rfl rfl rfl ?_
    obtain ⟨t4, qt4, h⟩ := g_bd h
    refine v_getR (pc := 17) C 11 rfl lf_ScopeGraphModel_32 (g_oB o1) rfl qt4 ?_
    refine v_iload_n (pc := 20) C 12 1 rfl rfl rfl ?_
    obtain ⟨b5, h⟩ := g_okk h
    refine v_iald' (pc := 21) C 13 rfl b5 ?_
    refine v_aload_n (pc := 22) C 14 0 rfl rfl rfl ?_
    obtain ⟨t6, qt6, h⟩ := g_bd h
    refine v_getR (pc := 23) C 15 rfl lf_ScopeGraphModel_35 (g_oB o1) rfl qt6 ?_
    refine v_iload_n (pc := 26) C 16 1 rfl rfl rfl ?_
    obtain ⟨b7, h⟩ := g_okk h
    refine v_iald' (pc := 27) C 17 rfl b7 ?_
    obtain ⟨⟨r9, m8⟩, qm8, h⟩ := g_bd h
    replace h := g_nm (y := m8) (g_nm (y := r9) h rfl) rfl
    refine v_callV (pc := 28) C 18 rfl mf_X8_nameAt clX8 rfl im_X8_nameAt lm_ScopeGraphModel_317 (c_X8_nameAt C.2.2.2.2.2.2.2.2.2.2.2 qm8) (by decide) rfl (g_oB o1) (Nat.le_of_ble_eq_true rfl) ⟨Nat.zero_le _, Nat.zero_le _⟩ rfl ?_
    change gV X w 0 0 (gR X w none rm) 2 31 [(0, .ref x0), (1, .int x1)] [.int r9, .int x1, .ref t3] m8
    obtain ⟨b11, h⟩ := g_okk h
    refine v_iast' (pc := 31) C 19 rfl b11 ?_
    refine v_topM (fun m12 em12 => ?_)
    replace h := g_nm h em12
    refine v_iincN (pc := 32) C 20 1 (fun v13 => [(1, .int v13), (0, .ref x0)]) rfl rfl (by decide) (fun _ => rfl) (fun v13 ev13 => ?_)
    replace h := g_nm h ev13
    refine v_goto (pc := 35) C 21 2 rfl (by decide) ?_
    refine v_sub [(0, .ref x0), (1, .int v13)] [1, 0] rfl ?_
    exact hk2 _ _ _ h
def l_X8_nameAll_2 (sh : List gS) (F : Nat) : Nat → Nat → Int32 → gM → Option (gM)
  | 0 => fun _ _ _ => none
  | n + 1 => fun x0 x1 m => b_X8_nameAll_2 sh F (l_X8_nameAll_2 sh F n) x0 x1 m
theorem tl_X8_nameAll_2 {X : gX} {w : gW} {rm : gM} (C : gC X w K_X8_nameAll 2 RX8 2) (hr : X.2.2.2.2.2.2.2.2.1.sig.returnType = none) {F : Nat} : ∀ (n : Nat) (x0 : Nat) (x1 : Int32) (m : gM), l_X8_nameAll_2 w.2.2.2.2.1 F n x0 x1 m = some rm → gV X w 0 0 (gR X w none rm) 2 2 [(0, .ref x0), (1, .int x1)] [] m := by
  intro n
  induction n with
  | zero => intro x0 x1 m h; cases h
  | succ n ih => intro x0 x1 m h; exact tb_X8_nameAll_2 (F := F) C hr ih h
def f_X8_nameAll (sh : List gS) (F : Nat) (x0 : Nat) (m : gM) : Option (gM) :=
  l_X8_nameAll_2 sh F F x0 0 m
set_option maxRecDepth 100000 in
set_option maxHeartbeats 4000000 in
theorem tf_X8_nameAll {X : gX} {w : gW} {rm : gM} (C : gC X w K_X8_nameAll 2 RX8 2) (hr : X.2.2.2.2.2.2.2.2.1.sig.returnType = none) {F : Nat} {x0 : Nat} {m : gM} (h : f_X8_nameAll w.2.2.2.2.1 F x0 m = some rm) : gV X w 0 0 (gR X w none rm) 2 0 [(0, .ref x0)] [] m := by
  unfold f_X8_nameAll at h
  refine v_iconst (pc := 0) C 0 0 rfl (by decide) ?_
  refine v_istore_n (pc := 1) (lv' := [(1, .int 0), (0, .ref x0)]) C 1 rfl rfl (by decide) rfl ?_
  refine v_sub [(0, .ref x0), (1, .int 0)] [1, 0] rfl ?_
  exact tl_X8_nameAll_2 (F := F) C hr _ _ _ _ h
theorem c_X8_nameAll {l : Launch} {w : gW} {rm : gM} (hJ : gJok w) {F : Nat} {x0 : Nat} {m : gM} (h : f_X8_nameAll w.2.2.2.2.1 F x0 m = some rm) : gMet l 2 yX8_nameAll cX8_nameAll 2 none w [.ref x0] m none rm :=
  gMet.of hJ mf_X8_nameAll dk_X8_nameAll (Nat.le_of_ble_eq_true rfl) (fun X _ C hr => tf_X8_nameAll (F := F) C hr h)
def b_X8_takeText_10 (sh : List gS) (F : Nat) (k10 : Nat → Int32 → gM → Option (gM)) (x0 : Nat) (x1 : Int32) (m : gM) : Option (gM) :=
  g_if (oB sh x0 8) (if (m.1 x0 6) ≤ x1 then ((f_X8_nameAll sh F x0 m).bind (fun m3 => (f_X8_meanAll sh F x0 m3).bind (fun m5 => some m5))) else ((m.2.2 x0 3).bind (fun t7 => (m.2.2 x0 5).bind (fun t8 => g_if (aB sh t8 .int x1) (g_if (aB sh t7 .int x1) (nm (gsI m t7 (x1).toNatClampNeg (m.1 t8 (x1).toNatClampNeg)) (fun m11 => nm (x1 + Int32.ofInt 1) (fun v12 => k10 x0 v12 m11))))))))
set_option maxRecDepth 100000 in
set_option maxHeartbeats 4000000 in
theorem tb_X8_takeText_10 {X : gX} {w : gW} {rm : gM} (C : gC X w K_X8_takeText 2 RX8 5) (hr : X.2.2.2.2.2.2.2.2.1.sig.returnType = none) {F : Nat} {k10 : Nat → Int32 → gM → Option (gM)} (hk10 : ∀ (z0 : Nat) (z1 : Int32) (m : gM), k10 z0 z1 m = some rm → gV X w 0 0 (gR X w none rm) 2 10 [(0, .ref z0), (1, .int z1)] [] m) {x0 : Nat} {x1 : Int32} {m : gM} (h : b_X8_takeText_10 w.2.2.2.2.1 F k10 x0 x1 m = some rm) : gV X w 0 0 (gR X w none rm) 2 10 [(0, .ref x0), (1, .int x1)] [] m := by
  unfold b_X8_takeText_10 at h
  refine v_iload_n (pc := 10) C 6 1 rfl rfl rfl ?_
  refine v_aload_n (pc := 11) C 7 0 rfl rfl rfl ?_
  obtain ⟨o1, h⟩ := g_okk h
  refine v_getI (pc := 12) C 8 rfl lf_ScopeGraphModel_174.get (g_oB o1) rfl ?_
  refine v_icmp_ge (pc := 15) C 9 36 rfl (by decide) (fun c2 => ?_) (fun c2 => ?_)
  · replace h := g_ifT c2 h
    refine v_aload_n (pc := 36) C 20 0 rfl rfl rfl ?_
    obtain ⟨m3, qm3, h⟩ := g_bd h
    refine v_callV (pc := 37) C 21 rfl mf_X8_nameAll clX8 rfl im_X8_nameAll lm_ScopeGraphModel_307 (c_X8_nameAll C.2.2.2.2.2.2.2.2.2.2.2 qm3) (by decide) rfl (g_oB o1) (Nat.le_of_ble_eq_true rfl) ⟨Nat.zero_le _, Nat.zero_le _⟩ rfl ?_
    change gV X w 0 0 (gR X w none rm) 2 40 [(0, .ref x0), (1, .int x1)] [] m3
    refine v_aload_n (pc := 40) C 22 0 rfl rfl rfl ?_
    obtain ⟨m5, qm5, h⟩ := g_bd h
    refine v_callV (pc := 41) C 23 rfl mf_X8_meanAll clX8 rfl im_X8_meanAll lm_ScopeGraphModel_310 (c_X8_meanAll C.2.2.2.2.2.2.2.2.2.2.2 qm5) (by decide) rfl (g_oB o1) (Nat.le_of_ble_eq_true rfl) ⟨Nat.zero_le _, Nat.zero_le _⟩ rfl ?_
    change gV X w 0 0 (gR X w none rm) 2 44 [(0, .ref x0), (1, .int x1)] [] m5
    cases g_s1' h
    exact v_vret (pc := 44) C 24 rfl hr
  · replace h := g_ifF c2 h
    refine v_aload_n (pc := 18) C 10 0 rfl rfl rfl ?_
    obtain ⟨t7, qt7, h⟩ := g_bd h
    refine v_getR (pc := 19) C 11 rfl lf_ScopeGraphModel_13 (g_oB o1) rfl qt7 ?_
    refine v_iload_n (pc := 22) C 12 1 rfl rfl rfl ?_
    refine v_aload_n (pc := 23) C 13 0 rfl rfl rfl ?_
    obtain ⟨t8, qt8, h⟩ := g_bd h
    refine v_getR (pc := 24) C 14 rfl lf_ScopeGraphModel_16 (g_oB o1) rfl qt8 ?_
    refine v_iload_n (pc := 27) C 15 1 rfl rfl rfl ?_
    obtain ⟨b9, h⟩ := g_okk h
    refine v_iald' (pc := 28) C 16 rfl b9 ?_
    obtain ⟨b10, h⟩ := g_okk h
    refine v_iast' (pc := 29) C 17 rfl b10 ?_
    refine v_topM (fun m11 em11 => ?_)
    replace h := g_nm h em11
    refine v_iincN (pc := 30) C 18 1 (fun v12 => [(1, .int v12), (0, .ref x0)]) rfl rfl (by decide) (fun _ => rfl) (fun v12 ev12 => ?_)
    replace h := g_nm h ev12
    refine v_goto (pc := 33) C 19 10 rfl (by decide) ?_
    refine v_sub [(0, .ref x0), (1, .int v12)] [1, 0] rfl ?_
    exact hk10 _ _ _ h
def l_X8_takeText_10 (sh : List gS) (F : Nat) : Nat → Nat → Int32 → gM → Option (gM)
  | 0 => fun _ _ _ => none
  | n + 1 => fun x0 x1 m => b_X8_takeText_10 sh F (l_X8_takeText_10 sh F n) x0 x1 m
theorem tl_X8_takeText_10 {X : gX} {w : gW} {rm : gM} (C : gC X w K_X8_takeText 2 RX8 5) (hr : X.2.2.2.2.2.2.2.2.1.sig.returnType = none) {F : Nat} : ∀ (n : Nat) (x0 : Nat) (x1 : Int32) (m : gM), l_X8_takeText_10 w.2.2.2.2.1 F n x0 x1 m = some rm → gV X w 0 0 (gR X w none rm) 2 10 [(0, .ref x0), (1, .int x1)] [] m := by
  intro n
  induction n with
  | zero => intro x0 x1 m h; cases h
  | succ n ih => intro x0 x1 m h; exact tb_X8_takeText_10 (F := F) C hr ih h
def f_X8_takeText (sh : List gS) (F : Nat) (x0 : Nat) (m : gM) : Option (gM) :=
  g_if (oB sh x0 8) (nm (gsI m x0 4 (m.1 x0 6)) (fun m2 => l_X8_takeText_10 sh F F x0 0 m2))
set_option maxRecDepth 100000 in
set_option maxHeartbeats 4000000 in
theorem tf_X8_takeText {X : gX} {w : gW} {rm : gM} (C : gC X w K_X8_takeText 2 RX8 5) (hr : X.2.2.2.2.2.2.2.2.1.sig.returnType = none) {F : Nat} {x0 : Nat} {m : gM} (h : f_X8_takeText w.2.2.2.2.1 F x0 m = some rm) : gV X w 0 0 (gR X w none rm) 2 0 [(0, .ref x0)] [] m := by
  unfold f_X8_takeText at h
  refine v_aload_n (pc := 0) C 0 0 rfl rfl rfl ?_
  refine v_aload_n (pc := 1) C 1 0 rfl rfl rfl ?_
  obtain ⟨o1, h⟩ := g_okk h
  refine v_getI (pc := 2) C 2 rfl lf_ScopeGraphModel_174.get (g_oB o1) rfl ?_
  refine v_putI (pc := 5) C 3 rfl lf_ScopeGraphModel_304 (g_oB o1) rfl ?_
  refine v_topM (fun m2 em2 => ?_)
  replace h := g_nm h em2
  refine v_iconst (pc := 8) C 4 0 rfl (by decide) ?_
  refine v_istore_n (pc := 9) (lv' := [(1, .int 0), (0, .ref x0)]) C 5 rfl rfl (by decide) rfl ?_
  refine v_sub [(0, .ref x0), (1, .int 0)] [1, 0] rfl ?_
  exact tl_X8_takeText_10 (F := F) C hr _ _ _ _ h
theorem c_X8_takeText {l : Launch} {w : gW} {rm : gM} (hJ : gJok w) {F : Nat} {x0 : Nat} {m : gM} (h : f_X8_takeText w.2.2.2.2.1 F x0 m = some rm) : gMet l 5 yX8_takeText cX8_takeText 2 none w [.ref x0] m none rm :=
  gMet.of hJ mf_X8_takeText dk_X8_takeText (Nat.le_of_ble_eq_true rfl) (fun X _ C hr => tf_X8_takeText (F := F) C hr h)
def b_X8_read_15 (sh : List gS) (F : Nat) (k15 : Nat → Int32 → gM → Option (Int32 × gM)) (x0 : Nat) (x1 : Int32) (m : gM) : Option (Int32 × gM) :=
  g_if (oB sh x0 8) (if (m.1 x0 2) ≤ x1 then (nm (gsI m x0 2 0) (fun m3 => (f_X8_keep sh F x0 m3).bind (fun m4 => (f_X8_readAll sh F x0 m4).bind (fun q8 => nm q8.1 (fun r7 => nm q8.2 (fun m6 => if r7 = 0 then ((f_X8_giveBack sh F x0 m6).bind (fun m12 => some (((-1) : Int32) - (m12.1 x0 42), m12))) else ((f_X8_takeText sh F x0 m6).bind (fun m10 => some (m10.1 x0 10, m10))))))))) else ((m.2.2 x0 5).bind (fun t14 => (m.2.2 x0 1).bind (fun t15 => g_if (aB sh t15 .int x1) (g_if (aB sh t14 .int x1) (nm (gsI m t14 (x1).toNatClampNeg (m.1 t15 (x1).toNatClampNeg)) (fun m18 => nm (x1 + Int32.ofInt 1) (fun v19 => k15 x0 v19 m18))))))))
set_option maxRecDepth 100000 in
set_option maxHeartbeats 4000000 in
theorem tb_X8_read_15 {X : gX} {w : gW} {rr : Int32} {rm : gM} (C : gC X w K_X8_read 2 RX8 6) (hr : X.2.2.2.2.2.2.2.2.1.sig.returnType = (some .int)) {F : Nat} {k15 : Nat → Int32 → gM → Option (Int32 × gM)} (hk15 : ∀ (z0 : Nat) (z1 : Int32) (m : gM), k15 z0 z1 m = some (rr, rm) → gV X w 0 0 (gR X w (some (.int rr)) rm) 2 15 [(0, .ref z0), (1, .int z1)] [] m) {x0 : Nat} {x1 : Int32} {m : gM} (h : b_X8_read_15 w.2.2.2.2.1 F k15 x0 x1 m = some (rr, rm)) : gV X w 0 0 (gR X w (some (.int rr)) rm) 2 15 [(0, .ref x0), (1, .int x1)] [] m := by
  unfold b_X8_read_15 at h
  refine v_iload_n (pc := 15) C 9 1 rfl rfl rfl ?_
  refine v_aload_n (pc := 16) C 10 0 rfl rfl rfl ?_
  obtain ⟨o1, h⟩ := g_okk h
  refine v_getI (pc := 17) C 11 rfl lf_ScopeGraphModel_157.get (g_oB o1) rfl ?_
  refine v_icmp_ge (pc := 20) C 12 41 rfl (by decide) (fun c2 => ?_) (fun c2 => ?_)
  · replace h := g_ifT c2 h
    refine v_aload_n (pc := 41) C 23 0 rfl rfl rfl ?_
    refine v_iconst (pc := 42) C 24 0 rfl (by decide) ?_
    refine v_putI (pc := 43) C 25 rfl lf_ScopeGraphModel_157 (g_oB o1) rfl ?_
    refine v_topM (fun m3 em3 => ?_)
    replace h := g_nm h em3
    refine v_aload_n (pc := 46) C 26 0 rfl rfl rfl ?_
    obtain ⟨m4, qm4, h⟩ := g_bd h
    refine v_callV (pc := 47) C 27 rfl mf_X8_keep clX8 rfl im_X8_keep lm_ScopeGraphModel_292 (c_X8_keep C.2.2.2.2.2.2.2.2.2.2.2 qm4) (by decide) rfl (g_oB o1) (Nat.le_of_ble_eq_true rfl) ⟨Nat.zero_le _, Nat.zero_le _⟩ rfl ?_
    change gV X w 0 0 (gR X w (some (.int rr)) rm) 2 50 [(0, .ref x0), (1, .int x1)] [] m4
    refine v_aload_n (pc := 50) C 28 0 rfl rfl rfl ?_
    obtain ⟨⟨r7, m6⟩, qm6, h⟩ := g_bd h
    replace h := g_nm (y := m6) (g_nm (y := r7) h rfl) rfl
    refine v_callV (pc := 51) C 29 rfl mf_X8_readAll clX8 rfl im_X8_readAll lm_ScopeGraphModel_295 (c_X8_readAll C.2.2.2.2.2.2.2.2.2.2.2 qm6) (by decide) rfl (g_oB o1) (Nat.le_of_ble_eq_true rfl) ⟨Nat.zero_le _, Nat.zero_le _⟩ rfl ?_
    change gV X w 0 0 (gR X w (some (.int rr)) rm) 2 54 [(0, .ref x0), (1, .int x1)] [.int r7] m6
    refine v_if_ne (pc := 54) C 30 68 rfl (by decide) (fun c9 => ?_) (fun c9 => ?_)
    · replace h := g_ifF c9 h
      refine v_aload_n (pc := 68) C 38 0 rfl rfl rfl ?_
      obtain ⟨m10, qm10, h⟩ := g_bd h
      refine v_callV (pc := 69) C 39 rfl mf_X8_takeText clX8 rfl im_X8_takeText lm_ScopeGraphModel_301 (c_X8_takeText C.2.2.2.2.2.2.2.2.2.2.2 qm10) (by decide) rfl (g_oB o1) (Nat.le_of_ble_eq_true rfl) ⟨Nat.zero_le _, Nat.zero_le _⟩ rfl ?_
      change gV X w 0 0 (gR X w (some (.int rr)) rm) 2 72 [(0, .ref x0), (1, .int x1)] [] m10
      refine v_aload_n (pc := 72) C 40 0 rfl rfl rfl ?_
      refine v_getI (pc := 73) C 41 rfl lf_ScopeGraphModel_25.get (g_oB o1) rfl ?_
      obtain ⟨rfl, rfl⟩ := g_so h
      exact v_iret (pc := 76) C 42 rfl hr
    · replace h := g_ifT c9 h
      refine v_aload_n (pc := 57) C 31 0 rfl rfl rfl ?_
      obtain ⟨m12, qm12, h⟩ := g_bd h
      refine v_callV (pc := 58) C 32 rfl mf_X8_giveBack clX8 rfl im_X8_giveBack lm_ScopeGraphModel_298 (c_X8_giveBack C.2.2.2.2.2.2.2.2.2.2.2 qm12) (by decide) rfl (g_oB o1) (Nat.le_of_ble_eq_true rfl) ⟨Nat.zero_le _, Nat.zero_le _⟩ rfl ?_
      change gV X w 0 0 (gR X w (some (.int rr)) rm) 2 61 [(0, .ref x0), (1, .int x1)] [] m12
      refine v_iconst (pc := 61) C 33 (-1) rfl (by decide) ?_
      refine v_aload_n (pc := 62) C 34 0 rfl rfl rfl ?_
      refine v_getI (pc := 63) C 35 rfl lf_ScopeGraphModel_171.get (g_oB o1) rfl ?_
      refine v_isub (pc := 66) C 36 rfl ?_
      obtain ⟨rfl, rfl⟩ := g_so h
      exact v_iret (pc := 67) C 37 rfl hr
  · replace h := g_ifF c2 h
    refine v_aload_n (pc := 23) C 13 0 rfl rfl rfl ?_
    obtain ⟨t14, qt14, h⟩ := g_bd h
    refine v_getR (pc := 24) C 14 rfl lf_ScopeGraphModel_16 (g_oB o1) rfl qt14 ?_
    refine v_iload_n (pc := 27) C 15 1 rfl rfl rfl ?_
    refine v_aload_n (pc := 28) C 16 0 rfl rfl rfl ?_
    obtain ⟨t15, qt15, h⟩ := g_bd h
    refine v_getR (pc := 29) C 17 rfl lf_ScopeGraphModel_7 (g_oB o1) rfl qt15 ?_
    refine v_iload_n (pc := 32) C 18 1 rfl rfl rfl ?_
    obtain ⟨b16, h⟩ := g_okk h
    refine v_iald' (pc := 33) C 19 rfl b16 ?_
    obtain ⟨b17, h⟩ := g_okk h
    refine v_iast' (pc := 34) C 20 rfl b17 ?_
    refine v_topM (fun m18 em18 => ?_)
    replace h := g_nm h em18
    refine v_iincN (pc := 35) C 21 1 (fun v19 => [(1, .int v19), (0, .ref x0)]) rfl rfl (by decide) (fun _ => rfl) (fun v19 ev19 => ?_)
    replace h := g_nm h ev19
    refine v_goto (pc := 38) C 22 15 rfl (by decide) ?_
    refine v_sub [(0, .ref x0), (1, .int v19)] [1, 0] rfl ?_
    exact hk15 _ _ _ h
def l_X8_read_15 (sh : List gS) (F : Nat) : Nat → Nat → Int32 → gM → Option (Int32 × gM)
  | 0 => fun _ _ _ => none
  | n + 1 => fun x0 x1 m => b_X8_read_15 sh F (l_X8_read_15 sh F n) x0 x1 m
theorem tl_X8_read_15 {X : gX} {w : gW} {rr : Int32} {rm : gM} (C : gC X w K_X8_read 2 RX8 6) (hr : X.2.2.2.2.2.2.2.2.1.sig.returnType = (some .int)) {F : Nat} : ∀ (n : Nat) (x0 : Nat) (x1 : Int32) (m : gM), l_X8_read_15 w.2.2.2.2.1 F n x0 x1 m = some (rr, rm) → gV X w 0 0 (gR X w (some (.int rr)) rm) 2 15 [(0, .ref x0), (1, .int x1)] [] m := by
  intro n
  induction n with
  | zero => intro x0 x1 m h; cases h
  | succ n ih => intro x0 x1 m h; exact tb_X8_read_15 (F := F) C hr ih h
def f_X8_read (sh : List gS) (F : Nat) (x0 : Nat) (m : gM) : Option (Int32 × gM) :=
  g_if (oB sh x0 8) (nm (gsI m x0 0 0) (fun m2 => nm (gsI m2 x0 6 (m2.1 x0 2)) (fun m3 => l_X8_read_15 sh F F x0 0 m3)))
set_option maxRecDepth 100000 in
set_option maxHeartbeats 4000000 in
theorem tf_X8_read {X : gX} {w : gW} {rr : Int32} {rm : gM} (C : gC X w K_X8_read 2 RX8 6) (hr : X.2.2.2.2.2.2.2.2.1.sig.returnType = (some .int)) {F : Nat} {x0 : Nat} {m : gM} (h : f_X8_read w.2.2.2.2.1 F x0 m = some (rr, rm)) : gV X w 0 0 (gR X w (some (.int rr)) rm) 2 0 [(0, .ref x0)] [] m := by
  unfold f_X8_read at h
  refine v_aload_n (pc := 0) C 0 0 rfl rfl rfl ?_
  refine v_iconst (pc := 1) C 1 0 rfl (by decide) ?_
  obtain ⟨o1, h⟩ := g_okk h
  refine v_putI (pc := 2) C 2 rfl lf_ScopeGraphModel_154 (g_oB o1) rfl ?_
  refine v_topM (fun m2 em2 => ?_)
  replace h := g_nm h em2
  refine v_aload_n (pc := 5) C 3 0 rfl rfl rfl ?_
  refine v_aload_n (pc := 6) C 4 0 rfl rfl rfl ?_
  refine v_getI (pc := 7) C 5 rfl lf_ScopeGraphModel_157.get (g_oB o1) rfl ?_
  refine v_putI (pc := 10) C 6 rfl lf_ScopeGraphModel_174 (g_oB o1) rfl ?_
  refine v_topM (fun m3 em3 => ?_)
  replace h := g_nm h em3
  refine v_iconst (pc := 13) C 7 0 rfl (by decide) ?_
  refine v_istore_n (pc := 14) (lv' := [(1, .int 0), (0, .ref x0)]) C 8 rfl rfl (by decide) rfl ?_
  refine v_sub [(0, .ref x0), (1, .int 0)] [1, 0] rfl ?_
  exact tl_X8_read_15 (F := F) C hr _ _ _ _ h
theorem c_X8_read {l : Launch} {w : gW} {rr : Int32} {rm : gM} (hJ : gJok w) {F : Nat} {x0 : Nat} {m : gM} (h : f_X8_read w.2.2.2.2.1 F x0 m = some (rr, rm)) : gMet l 6 yX8_read cX8_read 2 (some .int) w [.ref x0] m (some (.int rr)) rm :=
  gMet.of hJ mf_X8_read dk_X8_read (Nat.le_of_ble_eq_true rfl) (fun X _ C hr => tf_X8_read (F := F) C hr h)
def f_X8_fault (sh : List gS) (F : Nat) (x0 : Nat) (m : gM) : Option (Int32 × gM) :=
  g_if (oB sh x0 8) (nm (gsI m x0 0 0) (fun m2 => some (m2.1 x0 7, m2)))
set_option maxRecDepth 100000 in
set_option maxHeartbeats 4000000 in
theorem tf_X8_fault {X : gX} {w : gW} {rr : Int32} {rm : gM} (C : gC X w K_X8_fault 1 RX8 0) (hr : X.2.2.2.2.2.2.2.2.1.sig.returnType = (some .int)) {F : Nat} {x0 : Nat} {m : gM} (h : f_X8_fault w.2.2.2.2.1 F x0 m = some (rr, rm)) : gV X w 0 0 (gR X w (some (.int rr)) rm) 1 0 [(0, .ref x0)] [] m := by
  unfold f_X8_fault at h
  refine v_aload_n (pc := 0) C 0 0 rfl rfl rfl ?_
  refine v_iconst (pc := 1) C 1 0 rfl (by decide) ?_
  obtain ⟨o1, h⟩ := g_okk h
  refine v_putI (pc := 2) C 2 rfl lf_ScopeGraphModel_154 (g_oB o1) rfl ?_
  refine v_topM (fun m2 em2 => ?_)
  replace h := g_nm h em2
  refine v_aload_n (pc := 5) C 3 0 rfl rfl rfl ?_
  refine v_getI (pc := 6) C 4 rfl lf_ScopeGraphModel_168.get (g_oB o1) rfl ?_
  obtain ⟨rfl, rfl⟩ := g_so h
  exact v_iret (pc := 9) C 5 rfl hr
theorem c_X8_fault {l : Launch} {w : gW} {rr : Int32} {rm : gM} (hJ : gJok w) {F : Nat} {x0 : Nat} {m : gM} (h : f_X8_fault w.2.2.2.2.1 F x0 m = some (rr, rm)) : gMet l 0 yX8_fault cX8_fault 1 (some .int) w [.ref x0] m (some (.int rr)) rm :=
  gMet.of hJ mf_X8_fault dk_X8_fault (Nat.le_of_ble_eq_true rfl) (fun X _ C hr => tf_X8_fault (F := F) C hr h)
def b_X8_many_24 (sh : List gS) (F : Nat) (k4 : Int64 → Int32 → Int32 → gM → Option (Int32 × gM)) (x0 : Int64) (x3 : Int32) (y0 : Int32) (y1 : Int32) (m : gM) : Option (Int32 × gM) :=
  nm (y1 + y0) (fun v1 => nm (x3 + Int32.ofInt 1) (fun v2 => k4 x0 v1 v2 m))
set_option maxRecDepth 100000 in
set_option maxHeartbeats 4000000 in
theorem tb_X8_many_24 {X : gX} {w : gW} {rr : Int32} {rm : gM} (C : gC X w K_X8_many 4 RX8 1) (hr : X.2.2.2.2.2.2.2.2.1.sig.returnType = (some .int)) {F : Nat} {k4 : Int64 → Int32 → Int32 → gM → Option (Int32 × gM)} (hk4 : ∀ (z0 : Int64) (z2 : Int32) (z3 : Int32) (m : gM), k4 z0 z2 z3 m = some (rr, rm) → gV X w 0 0 (gR X w (some (.int rr)) rm) 4 4 [(0, .long z0), (2, .int z2), (3, .int z3)] [] m) {x0 : Int64} {x3 : Int32} {y0 : Int32} {y1 : Int32} {m : gM} (h : b_X8_many_24 w.2.2.2.2.1 F k4 x0 x3 y0 y1 m = some (rr, rm)) : gV X w 0 0 (gR X w (some (.int rr)) rm) 4 24 [(0, .long x0), (3, .int x3)] [.int y0, .int y1] m := by
  unfold b_X8_many_24 at h
  refine v_iadd (pc := 24) C 15 rfl ?_
  refine v_topI (fun v1 ev1 => ?_)
  replace h := g_nm h ev1
  refine v_istore_n (pc := 25) (lv' := [(2, .int v1), (0, .long x0), (3, .int x3)]) C 16 rfl rfl (by decide) rfl ?_
  refine v_iincN (pc := 26) C 17 2 (fun v2 => [(3, .int v2), (2, .int v1), (0, .long x0)]) rfl rfl (by decide) (fun _ => rfl) (fun v2 ev2 => ?_)
  replace h := g_nm h ev2
  refine v_goto (pc := 29) C 18 4 rfl (by decide) ?_
  refine v_sub [(0, .long x0), (2, .int v1), (3, .int v2)] [2, 1, 0] rfl ?_
  exact hk4 _ _ _ _ h
def b_X8_many_4 (sh : List gS) (F : Nat) (k4 : Int64 → Int32 → Int32 → gM → Option (Int32 × gM)) (x0 : Int64) (x2 : Int32) (x3 : Int32) (m : gM) : Option (Int32 × gM) :=
  if (61 : Int32) ≤ x3 then (some (x2, m)) else ((f_X8_has sh F x0 x3 m).bind (fun q4 => nm q4.1 (fun r3 => nm q4.2 (fun m2 => if r3 = 0 then (b_X8_many_24 sh F k4 x0 x3 0 x2 m2) else (b_X8_many_24 sh F k4 x0 x3 1 x2 m2)))))
set_option maxRecDepth 100000 in
set_option maxHeartbeats 4000000 in
theorem tb_X8_many_4 {X : gX} {w : gW} {rr : Int32} {rm : gM} (C : gC X w K_X8_many 4 RX8 1) (hr : X.2.2.2.2.2.2.2.2.1.sig.returnType = (some .int)) {F : Nat} {k4 : Int64 → Int32 → Int32 → gM → Option (Int32 × gM)} (hk4 : ∀ (z0 : Int64) (z2 : Int32) (z3 : Int32) (m : gM), k4 z0 z2 z3 m = some (rr, rm) → gV X w 0 0 (gR X w (some (.int rr)) rm) 4 4 [(0, .long z0), (2, .int z2), (3, .int z3)] [] m) {x0 : Int64} {x2 : Int32} {x3 : Int32} {m : gM} (h : b_X8_many_4 w.2.2.2.2.1 F k4 x0 x2 x3 m = some (rr, rm)) : gV X w 0 0 (gR X w (some (.int rr)) rm) 4 4 [(0, .long x0), (2, .int x2), (3, .int x3)] [] m := by
  unfold b_X8_many_4 at h
  refine v_iload_n (pc := 4) C 4 2 rfl rfl rfl ?_
  refine v_bipush (pc := 5) C 5 61 rfl (by decide) ?_
  refine v_icmp_ge (pc := 7) C 6 32 rfl (by decide) (fun c1 => ?_) (fun c1 => ?_)
  · replace h := g_ifT c1 h
    refine v_iload_n (pc := 32) C 19 1 rfl rfl rfl ?_
    obtain ⟨rfl, rfl⟩ := g_so h
    exact v_iret (pc := 33) C 20 rfl hr
  · replace h := g_ifF c1 h
    refine v_iload_n (pc := 10) C 7 1 rfl rfl rfl ?_
    refine v_lload_n (pc := 11) C 8 0 rfl rfl rfl ?_
    refine v_iload_n (pc := 12) C 9 2 rfl rfl rfl ?_
    obtain ⟨⟨r3, m2⟩, qm2, h⟩ := g_bd h
    replace h := g_nm (y := m2) (g_nm (y := r3) h rfl) rfl
    refine v_callS (pc := 13) C 10 rfl mf_X8_has sm_X8_has lm_ScopeGraphModel_351 (c_X8_has C.2.2.2.2.2.2.2.2.2.2.2 qm2) (by decide) rfl (Nat.le_of_ble_eq_true rfl) ⟨Nat.zero_le _, Nat.zero_le _⟩ rfl ?_
    change gV X w 0 0 (gR X w (some (.int rr)) rm) 4 16 [(0, .long x0), (2, .int x2), (3, .int x3)] [.int r3, .int x2] m2
    refine v_if_eq (pc := 16) C 11 23 rfl (by decide) (fun c5 => ?_) (fun c5 => ?_)
    · replace h := g_ifT c5 h
      refine v_iconst (pc := 23) C 14 0 rfl (by decide) ?_
      refine v_sub [(0, .long x0), (3, .int x3)] [0, 2] rfl ?_
      exact tb_X8_many_24 (F := F) C hr hk4 h
    · replace h := g_ifF c5 h
      refine v_iconst (pc := 19) C 12 1 rfl (by decide) ?_
      refine v_goto (pc := 20) C 13 24 rfl (by decide) ?_
      refine v_sub [(0, .long x0), (3, .int x3)] [0, 2] rfl ?_
      exact tb_X8_many_24 (F := F) C hr hk4 h
def l_X8_many_4 (sh : List gS) (F : Nat) : Nat → Int64 → Int32 → Int32 → gM → Option (Int32 × gM)
  | 0 => fun _ _ _ _ => none
  | n + 1 => fun x0 x2 x3 m => b_X8_many_4 sh F (l_X8_many_4 sh F n) x0 x2 x3 m
theorem tl_X8_many_4 {X : gX} {w : gW} {rr : Int32} {rm : gM} (C : gC X w K_X8_many 4 RX8 1) (hr : X.2.2.2.2.2.2.2.2.1.sig.returnType = (some .int)) {F : Nat} : ∀ (n : Nat) (x0 : Int64) (x2 : Int32) (x3 : Int32) (m : gM), l_X8_many_4 w.2.2.2.2.1 F n x0 x2 x3 m = some (rr, rm) → gV X w 0 0 (gR X w (some (.int rr)) rm) 4 4 [(0, .long x0), (2, .int x2), (3, .int x3)] [] m := by
  intro n
  induction n with
  | zero => intro x0 x2 x3 m h; cases h
  | succ n ih => intro x0 x2 x3 m h; exact tb_X8_many_4 (F := F) C hr ih h
def f_X8_many (sh : List gS) (F : Nat) (x0 : Int64) (m : gM) : Option (Int32 × gM) :=
  l_X8_many_4 sh F F x0 0 0 m
set_option maxRecDepth 100000 in
set_option maxHeartbeats 4000000 in
theorem tf_X8_many {X : gX} {w : gW} {rr : Int32} {rm : gM} (C : gC X w K_X8_many 4 RX8 1) (hr : X.2.2.2.2.2.2.2.2.1.sig.returnType = (some .int)) {F : Nat} {x0 : Int64} {m : gM} (h : f_X8_many w.2.2.2.2.1 F x0 m = some (rr, rm)) : gV X w 0 0 (gR X w (some (.int rr)) rm) 4 0 [(0, .long x0)] [] m := by
  unfold f_X8_many at h
  refine v_iconst (pc := 0) C 0 0 rfl (by decide) ?_
  refine v_istore_n (pc := 1) (lv' := [(2, .int 0), (0, .long x0)]) C 1 rfl rfl (by decide) rfl ?_
  refine v_iconst (pc := 2) C 2 0 rfl (by decide) ?_
  refine v_istore_n (pc := 3) (lv' := [(3, .int 0), (2, .int 0), (0, .long x0)]) C 3 rfl rfl (by decide) rfl ?_
  refine v_sub [(0, .long x0), (2, .int 0), (3, .int 0)] [2, 1, 0] rfl ?_
  exact tl_X8_many_4 (F := F) C hr _ _ _ _ _ h
theorem c_X8_many {l : Launch} {w : gW} {rr : Int32} {rm : gM} (hJ : gJok w) {F : Nat} {x0 : Int64} {m : gM} (h : f_X8_many w.2.2.2.2.1 F x0 m = some (rr, rm)) : gMet l 1 yX8_many cX8_many 4 (some .int) w [.long x0] m (some (.int rr)) rm :=
  gMet.of hJ mf_X8_many dk_X8_many (Nat.le_of_ble_eq_true rfl) (fun X _ C hr => tf_X8_many (F := F) C hr h)
def b_X8_count_104 (sh : List gS) (F : Nat) (k81 : Nat → Int32 → Int32 → gM → Option (Int32 × gM)) (x0 : Nat) (x3 : Int32) (y0 : Int32) (y1 : Int32) (m : gM) : Option (Int32 × gM) :=
  nm (y1 + y0) (fun v1 => nm (x3 + Int32.ofInt 1) (fun v2 => k81 x0 v1 v2 m))
set_option maxRecDepth 100000 in
set_option maxHeartbeats 4000000 in
theorem tb_X8_count_104 {X : gX} {w : gW} {rr : Int32} {rm : gM} (C : gC X w K_X8_count 4 RX8 2) (hr : X.2.2.2.2.2.2.2.2.1.sig.returnType = (some .int)) {F : Nat} {k81 : Nat → Int32 → Int32 → gM → Option (Int32 × gM)} (hk81 : ∀ (z0 : Nat) (z2 : Int32) (z3 : Int32) (m : gM), k81 z0 z2 z3 m = some (rr, rm) → gV X w 0 0 (gR X w (some (.int rr)) rm) 4 81 [(0, .ref z0), (2, .int z2), (3, .int z3)] [] m) {x0 : Nat} {x3 : Int32} {y0 : Int32} {y1 : Int32} {m : gM} (h : b_X8_count_104 w.2.2.2.2.1 F k81 x0 x3 y0 y1 m = some (rr, rm)) : gV X w 0 0 (gR X w (some (.int rr)) rm) 4 104 [(0, .ref x0), (3, .int x3)] [.int y0, .int y1] m := by
  unfold b_X8_count_104 at h
  refine v_iadd (pc := 104) C 41 rfl ?_
  refine v_topI (fun v1 ev1 => ?_)
  replace h := g_nm h ev1
  refine v_istore_n (pc := 105) (lv' := [(2, .int v1), (0, .ref x0), (3, .int x3)]) C 42 rfl rfl (by decide) rfl ?_
  refine v_iincN (pc := 106) C 43 2 (fun v2 => [(3, .int v2), (2, .int v1), (0, .ref x0)]) rfl rfl (by decide) (fun _ => rfl) (fun v2 ev2 => ?_)
  replace h := g_nm h ev2
  refine v_goto (pc := 109) C 44 81 rfl (by decide) ?_
  refine v_sub [(0, .ref x0), (2, .int v1), (3, .int v2)] [2, 1, 0] rfl ?_
  exact hk81 _ _ _ _ h
def b_X8_count_81 (sh : List gS) (F : Nat) (k81 : Nat → Int32 → Int32 → gM → Option (Int32 × gM)) (x0 : Nat) (x2 : Int32) (x3 : Int32) (m : gM) : Option (Int32 × gM) :=
  g_if (oB sh x0 8) (if (m.1 x0 20) ≤ x3 then (some (x2, m)) else ((m.2.2 x0 19).bind (fun t3 => g_if (aB sh t3 .int x3) (if (m.1 t3 (x3).toNatClampNeg) < 0 then (b_X8_count_104 sh F k81 x0 x3 0 x2 m) else (b_X8_count_104 sh F k81 x0 x3 1 x2 m)))))
set_option maxRecDepth 100000 in
set_option maxHeartbeats 4000000 in
theorem tb_X8_count_81 {X : gX} {w : gW} {rr : Int32} {rm : gM} (C : gC X w K_X8_count 4 RX8 2) (hr : X.2.2.2.2.2.2.2.2.1.sig.returnType = (some .int)) {F : Nat} {k81 : Nat → Int32 → Int32 → gM → Option (Int32 × gM)} (hk81 : ∀ (z0 : Nat) (z2 : Int32) (z3 : Int32) (m : gM), k81 z0 z2 z3 m = some (rr, rm) → gV X w 0 0 (gR X w (some (.int rr)) rm) 4 81 [(0, .ref z0), (2, .int z2), (3, .int z3)] [] m) {x0 : Nat} {x2 : Int32} {x3 : Int32} {m : gM} (h : b_X8_count_81 w.2.2.2.2.1 F k81 x0 x2 x3 m = some (rr, rm)) : gV X w 0 0 (gR X w (some (.int rr)) rm) 4 81 [(0, .ref x0), (2, .int x2), (3, .int x3)] [] m := by
  unfold b_X8_count_81 at h
  refine v_iload_n (pc := 81) C 28 2 rfl rfl rfl ?_
  refine v_aload_n (pc := 82) C 29 0 rfl rfl rfl ?_
  obtain ⟨o1, h⟩ := g_okk h
  refine v_getI (pc := 83) C 30 rfl lf_ScopeGraphModel_223.get (g_oB o1) rfl ?_
  refine v_icmp_ge (pc := 86) C 31 112 rfl (by decide) (fun c2 => ?_) (fun c2 => ?_)
  · replace h := g_ifT c2 h
    refine v_iload_n (pc := 112) C 45 1 rfl rfl rfl ?_
    obtain ⟨rfl, rfl⟩ := g_so h
    exact v_iret (pc := 113) C 46 rfl hr
  · replace h := g_ifF c2 h
    refine v_iload_n (pc := 89) C 32 1 rfl rfl rfl ?_
    refine v_aload_n (pc := 90) C 33 0 rfl rfl rfl ?_
    obtain ⟨t3, qt3, h⟩ := g_bd h
    refine v_getR (pc := 91) C 34 rfl lf_ScopeGraphModel_50 (g_oB o1) rfl qt3 ?_
    refine v_iload_n (pc := 94) C 35 2 rfl rfl rfl ?_
    obtain ⟨b4, h⟩ := g_okk h
    refine v_iald' (pc := 95) C 36 rfl b4 ?_
    refine v_if_lt (pc := 96) C 37 103 rfl (by decide) (fun c5 => ?_) (fun c5 => ?_)
    · replace h := g_ifT c5 h
      refine v_iconst (pc := 103) C 40 0 rfl (by decide) ?_
      refine v_sub [(0, .ref x0), (3, .int x3)] [0, 2] rfl ?_
      exact tb_X8_count_104 (F := F) C hr hk81 h
    · replace h := g_ifF c5 h
      refine v_iconst (pc := 99) C 38 1 rfl (by decide) ?_
      refine v_goto (pc := 100) C 39 104 rfl (by decide) ?_
      refine v_sub [(0, .ref x0), (3, .int x3)] [0, 2] rfl ?_
      exact tb_X8_count_104 (F := F) C hr hk81 h
def l_X8_count_81 (sh : List gS) (F : Nat) : Nat → Nat → Int32 → Int32 → gM → Option (Int32 × gM)
  | 0 => fun _ _ _ _ => none
  | n + 1 => fun x0 x2 x3 m => b_X8_count_81 sh F (l_X8_count_81 sh F n) x0 x2 x3 m
theorem tl_X8_count_81 {X : gX} {w : gW} {rr : Int32} {rm : gM} (C : gC X w K_X8_count 4 RX8 2) (hr : X.2.2.2.2.2.2.2.2.1.sig.returnType = (some .int)) {F : Nat} : ∀ (n : Nat) (x0 : Nat) (x2 : Int32) (x3 : Int32) (m : gM), l_X8_count_81 w.2.2.2.2.1 F n x0 x2 x3 m = some (rr, rm) → gV X w 0 0 (gR X w (some (.int rr)) rm) 4 81 [(0, .ref x0), (2, .int x2), (3, .int x3)] [] m := by
  intro n
  induction n with
  | zero => intro x0 x2 x3 m h; cases h
  | succ n ih => intro x0 x2 x3 m h; exact tb_X8_count_81 (F := F) C hr ih h
def b_X8_count_167 (sh : List gS) (F : Nat) (k116 : Nat → Int32 → Int32 → Int32 → gM → Option (Int32 × gM)) (x0 : Nat) (x1 : Int32) (x3 : Int32) (y0 : Int32) (y1 : Int32) (m : gM) : Option (Int32 × gM) :=
  nm (y1 + y0) (fun v1 => nm (x3 + Int32.ofInt 1) (fun v2 => k116 x0 x1 v1 v2 m))
set_option maxRecDepth 100000 in
set_option maxHeartbeats 4000000 in
theorem tb_X8_count_167 {X : gX} {w : gW} {rr : Int32} {rm : gM} (C : gC X w K_X8_count 4 RX8 2) (hr : X.2.2.2.2.2.2.2.2.1.sig.returnType = (some .int)) {F : Nat} {k116 : Nat → Int32 → Int32 → Int32 → gM → Option (Int32 × gM)} (hk116 : ∀ (z0 : Nat) (z1 : Int32) (z2 : Int32) (z3 : Int32) (m : gM), k116 z0 z1 z2 z3 m = some (rr, rm) → gV X w 0 0 (gR X w (some (.int rr)) rm) 4 116 [(0, .ref z0), (1, .int z1), (2, .int z2), (3, .int z3)] [] m) {x0 : Nat} {x1 : Int32} {x3 : Int32} {y0 : Int32} {y1 : Int32} {m : gM} (h : b_X8_count_167 w.2.2.2.2.1 F k116 x0 x1 x3 y0 y1 m = some (rr, rm)) : gV X w 0 0 (gR X w (some (.int rr)) rm) 4 167 [(0, .ref x0), (1, .int x1), (3, .int x3)] [.int y0, .int y1] m := by
  unfold b_X8_count_167 at h
  refine v_iadd (pc := 167) C 78 rfl ?_
  refine v_topI (fun v1 ev1 => ?_)
  replace h := g_nm h ev1
  refine v_istore_n (pc := 168) (lv' := [(2, .int v1), (0, .ref x0), (1, .int x1), (3, .int x3)]) C 79 rfl rfl (by decide) rfl ?_
  refine v_iincN (pc := 169) C 80 3 (fun v2 => [(3, .int v2), (2, .int v1), (0, .ref x0), (1, .int x1)]) rfl rfl (by decide) (fun _ => rfl) (fun v2 ev2 => ?_)
  replace h := g_nm h ev2
  refine v_goto (pc := 172) C 81 116 rfl (by decide) ?_
  refine v_sub [(0, .ref x0), (1, .int x1), (2, .int v1), (3, .int v2)] [2, 3, 1, 0] rfl ?_
  exact hk116 _ _ _ _ _ h
def b_X8_count_116 (sh : List gS) (F : Nat) (k116 : Nat → Int32 → Int32 → Int32 → gM → Option (Int32 × gM)) (x0 : Nat) (x1 : Int32) (x2 : Int32) (x3 : Int32) (m : gM) : Option (Int32 × gM) :=
  g_if (oB sh x0 8) (if (m.1 x0 20) ≤ x3 then (some (x2, m)) else (if x1 = (4 : Int32) then ((m.2.2 x0 68).bind (fun t10 => g_if (aB sh t10 .long x3) (if (m.2.1 t10 (x3).toNatClampNeg) = (0 : Int64) then (b_X8_count_167 sh F k116 x0 x1 x3 1 x2 m) else (b_X8_count_167 sh F k116 x0 x1 x3 0 x2 m)))) else ((m.2.2 x0 68).bind (fun t4 => g_if (aB sh t4 .long x3) ((f_X8_many sh F (m.2.1 t4 (x3).toNatClampNeg) m).bind (fun q8 => nm q8.1 (fun r7 => nm q8.2 (fun m6 => if r7 ≤ (1 : Int32) then (b_X8_count_167 sh F k116 x0 x1 x3 0 x2 m6) else (b_X8_count_167 sh F k116 x0 x1 x3 1 x2 m6)))))))))
set_option maxRecDepth 100000 in
set_option maxHeartbeats 4000000 in
theorem tb_X8_count_116 {X : gX} {w : gW} {rr : Int32} {rm : gM} (C : gC X w K_X8_count 4 RX8 2) (hr : X.2.2.2.2.2.2.2.2.1.sig.returnType = (some .int)) {F : Nat} {k116 : Nat → Int32 → Int32 → Int32 → gM → Option (Int32 × gM)} (hk116 : ∀ (z0 : Nat) (z1 : Int32) (z2 : Int32) (z3 : Int32) (m : gM), k116 z0 z1 z2 z3 m = some (rr, rm) → gV X w 0 0 (gR X w (some (.int rr)) rm) 4 116 [(0, .ref z0), (1, .int z1), (2, .int z2), (3, .int z3)] [] m) {x0 : Nat} {x1 : Int32} {x2 : Int32} {x3 : Int32} {m : gM} (h : b_X8_count_116 w.2.2.2.2.1 F k116 x0 x1 x2 x3 m = some (rr, rm)) : gV X w 0 0 (gR X w (some (.int rr)) rm) 4 116 [(0, .ref x0), (1, .int x1), (2, .int x2), (3, .int x3)] [] m := by
  unfold b_X8_count_116 at h
  refine v_iload_n (pc := 116) C 49 3 rfl rfl rfl ?_
  refine v_aload_n (pc := 117) C 50 0 rfl rfl rfl ?_
  obtain ⟨o1, h⟩ := g_okk h
  refine v_getI (pc := 118) C 51 rfl lf_ScopeGraphModel_223.get (g_oB o1) rfl ?_
  refine v_icmp_ge (pc := 121) C 52 175 rfl (by decide) (fun c2 => ?_) (fun c2 => ?_)
  · replace h := g_ifT c2 h
    refine v_iload_n (pc := 175) C 82 2 rfl rfl rfl ?_
    obtain ⟨rfl, rfl⟩ := g_so h
    exact v_iret (pc := 176) C 83 rfl hr
  · replace h := g_ifF c2 h
    refine v_iload_n (pc := 124) C 53 2 rfl rfl rfl ?_
    refine v_iload_n (pc := 125) C 54 1 rfl rfl rfl ?_
    refine v_iconst (pc := 126) C 55 4 rfl (by decide) ?_
    refine v_icmp_ne (pc := 127) C 56 149 rfl (by decide) (fun c3 => ?_) (fun c3 => ?_)
    · replace h := g_ifF c3 h
      refine v_aload_n (pc := 149) C 68 0 rfl rfl rfl ?_
      obtain ⟨t4, qt4, h⟩ := g_bd h
      refine v_getR (pc := 150) C 69 rfl lf_ScopeGraphModel_138 (g_oB o1) rfl qt4 ?_
      refine v_iload_n (pc := 153) C 70 3 rfl rfl rfl ?_
      obtain ⟨b5, h⟩ := g_okk h
      refine v_lald' (pc := 154) C 71 rfl b5 ?_
      obtain ⟨⟨r7, m6⟩, qm6, h⟩ := g_bd h
      replace h := g_nm (y := m6) (g_nm (y := r7) h rfl) rfl
      refine v_callS (pc := 155) C 72 rfl mf_X8_many sm_X8_many lm_ScopeGraphModel_368 (c_X8_many C.2.2.2.2.2.2.2.2.2.2.2 qm6) (by decide) rfl (Nat.le_of_ble_eq_true rfl) ⟨Nat.zero_le _, Nat.zero_le _⟩ rfl ?_
      change gV X w 0 0 (gR X w (some (.int rr)) rm) 4 158 [(0, .ref x0), (1, .int x1), (2, .int x2), (3, .int x3)] [.int r7, .int x2] m6
      refine v_iconst (pc := 158) C 73 1 rfl (by decide) ?_
      refine v_icmp_le (pc := 159) C 74 166 rfl (by decide) (fun c9 => ?_) (fun c9 => ?_)
      · replace h := g_ifT c9 h
        refine v_iconst (pc := 166) C 77 0 rfl (by decide) ?_
        refine v_sub [(0, .ref x0), (1, .int x1), (3, .int x3)] [0, 1, 3] rfl ?_
        exact tb_X8_count_167 (F := F) C hr hk116 h
      · replace h := g_ifF c9 h
        refine v_iconst (pc := 162) C 75 1 rfl (by decide) ?_
        refine v_goto (pc := 163) C 76 167 rfl (by decide) ?_
        refine v_sub [(0, .ref x0), (1, .int x1), (3, .int x3)] [0, 1, 3] rfl ?_
        exact tb_X8_count_167 (F := F) C hr hk116 h
    · replace h := g_ifT c3 h
      refine v_aload_n (pc := 130) C 57 0 rfl rfl rfl ?_
      obtain ⟨t10, qt10, h⟩ := g_bd h
      refine v_getR (pc := 131) C 58 rfl lf_ScopeGraphModel_138 (g_oB o1) rfl qt10 ?_
      refine v_iload_n (pc := 134) C 59 3 rfl rfl rfl ?_
      obtain ⟨b11, h⟩ := g_okk h
      refine v_lald' (pc := 135) C 60 rfl b11 ?_
      refine v_lconst (pc := 136) C 61 0 rfl (by decide) ?_
      refine v_lcmp (pc := 137) C 62 rfl ?_
      refine v_lif_ne (pc := 138) C 63 145 rfl (by decide) (fun c12 => ?_) (fun c12 => ?_)
      · replace h := g_ifF c12 h
        refine v_iconst (pc := 145) C 66 0 rfl (by decide) ?_
        refine v_goto (pc := 146) C 67 167 rfl (by decide) ?_
        refine v_sub [(0, .ref x0), (1, .int x1), (3, .int x3)] [0, 1, 3] rfl ?_
        exact tb_X8_count_167 (F := F) C hr hk116 h
      · replace h := g_ifT c12 h
        refine v_iconst (pc := 141) C 64 1 rfl (by decide) ?_
        refine v_goto (pc := 142) C 65 167 rfl (by decide) ?_
        refine v_sub [(0, .ref x0), (1, .int x1), (3, .int x3)] [0, 1, 3] rfl ?_
        exact tb_X8_count_167 (F := F) C hr hk116 h
def l_X8_count_116 (sh : List gS) (F : Nat) : Nat → Nat → Int32 → Int32 → Int32 → gM → Option (Int32 × gM)
  | 0 => fun _ _ _ _ _ => none
  | n + 1 => fun x0 x1 x2 x3 m => b_X8_count_116 sh F (l_X8_count_116 sh F n) x0 x1 x2 x3 m
theorem tl_X8_count_116 {X : gX} {w : gW} {rr : Int32} {rm : gM} (C : gC X w K_X8_count 4 RX8 2) (hr : X.2.2.2.2.2.2.2.2.1.sig.returnType = (some .int)) {F : Nat} : ∀ (n : Nat) (x0 : Nat) (x1 : Int32) (x2 : Int32) (x3 : Int32) (m : gM), l_X8_count_116 w.2.2.2.2.1 F n x0 x1 x2 x3 m = some (rr, rm) → gV X w 0 0 (gR X w (some (.int rr)) rm) 4 116 [(0, .ref x0), (1, .int x1), (2, .int x2), (3, .int x3)] [] m := by
  intro n
  induction n with
  | zero => intro x0 x1 x2 x3 m h; cases h
  | succ n ih => intro x0 x1 x2 x3 m h; exact tb_X8_count_116 (F := F) C hr ih h
def b_X8_count_114 (sh : List gS) (F : Nat) (x0 : Nat) (x1 : Int32) (x2 : Int32) (m : gM) : Option (Int32 × gM) :=
  l_X8_count_116 sh F F x0 x1 x2 0 m
set_option maxRecDepth 100000 in
set_option maxHeartbeats 4000000 in
theorem tb_X8_count_114 {X : gX} {w : gW} {rr : Int32} {rm : gM} (C : gC X w K_X8_count 4 RX8 2) (hr : X.2.2.2.2.2.2.2.2.1.sig.returnType = (some .int)) {F : Nat} {x0 : Nat} {x1 : Int32} {x2 : Int32} {m : gM} (h : b_X8_count_114 w.2.2.2.2.1 F x0 x1 x2 m = some (rr, rm)) : gV X w 0 0 (gR X w (some (.int rr)) rm) 4 114 [(0, .ref x0), (1, .int x1), (2, .int x2)] [] m := by
  unfold b_X8_count_114 at h
  refine v_iconst (pc := 114) C 47 0 rfl (by decide) ?_
  refine v_istore_n (pc := 115) (lv' := [(3, .int 0), (0, .ref x0), (1, .int x1), (2, .int x2)]) C 48 rfl rfl (by decide) rfl ?_
  refine v_sub [(0, .ref x0), (1, .int x1), (2, .int x2), (3, .int 0)] [1, 2, 3, 0] rfl ?_
  exact tl_X8_count_116 (F := F) C hr _ _ _ _ _ _ h
def b_X8_count_16 (sh : List gS) (F : Nat) (x0 : Nat) (x1 : Int32) (y0 : Int32) (y1 : Nat) (m : gM) : Option (Int32 × gM) :=
  g_if (oB sh y1 8) ((f_X8_fails sh F y1 y0 m).bind (fun q4 => nm q4.1 (fun r3 => nm q4.2 (fun m2 => if r3 = 0 then (if x1 = 0 then (g_if (oB sh x0 8) (some (m2.1 x0 10, m2))) else (if x1 = 1 then (g_if (oB sh x0 8) (some (m2.1 x0 15, m2))) else (if x1 = 2 then (g_if (oB sh x0 8) (some (m2.1 x0 20, m2))) else (if x1 = 3 then (l_X8_count_81 sh F F x0 0 0 m2) else (if x1 = 4 then (b_X8_count_114 sh F x0 x1 0 m2) else (if x1 = 5 then (b_X8_count_114 sh F x0 x1 0 m2) else (if x1 = (6 : Int32) then (g_if (oB sh x0 8) (some (m2.1 x0 4, m2))) else (g_if (oB sh x0 8) (some (m2.1 x0 2, m2)))))))))) else (some (0, m2))))))
set_option maxRecDepth 100000 in
set_option maxHeartbeats 4000000 in
theorem tb_X8_count_16 {X : gX} {w : gW} {rr : Int32} {rm : gM} (C : gC X w K_X8_count 4 RX8 2) (hr : X.2.2.2.2.2.2.2.2.1.sig.returnType = (some .int)) {F : Nat} {x0 : Nat} {x1 : Int32} {y0 : Int32} {y1 : Nat} {m : gM} (h : b_X8_count_16 w.2.2.2.2.1 F x0 x1 y0 y1 m = some (rr, rm)) : gV X w 0 0 (gR X w (some (.int rr)) rm) 4 16 [(0, .ref x0), (1, .int x1)] [.int y0, .ref y1] m := by
  unfold b_X8_count_16 at h
  obtain ⟨o1, h⟩ := g_okk h
  obtain ⟨⟨r3, m2⟩, qm2, h⟩ := g_bd h
  replace h := g_nm (y := m2) (g_nm (y := r3) h rfl) rfl
  refine v_callV (pc := 16) C 9 rfl mf_X8_fails clX8 rfl im_X8_fails lm_ScopeGraphModel_160 (c_X8_fails C.2.2.2.2.2.2.2.2.2.2.2 qm2) (by decide) rfl (g_oB o1) (Nat.le_of_ble_eq_true rfl) ⟨Nat.zero_le _, Nat.zero_le _⟩ rfl ?_
  change gV X w 0 0 (gR X w (some (.int rr)) rm) 4 19 [(0, .ref x0), (1, .int x1)] [.int r3] m2
  refine v_if_eq (pc := 19) C 10 24 rfl (by decide) (fun c5 => ?_) (fun c5 => ?_)
  · replace h := g_ifT c5 h
    refine v_iconst (pc := 24) C 13 0 rfl (by decide) ?_
    refine v_istore_n (pc := 25) (lv' := [(2, .int 0), (0, .ref x0), (1, .int x1)]) C 14 rfl rfl (by decide) rfl ?_
    refine v_iload_n (pc := 26) C 15 2 rfl rfl rfl ?_
    by_cases c6 : x1 = 0
    · replace h := g_ifT c6 h
      refine v_tableIn (pc := 27) C 16 64 rfl (by rw [c6]; decide) (by rw [c6]; decide) (by rw [c6]; rfl) (by decide) ?_
      refine v_aload_n (pc := 64) C 17 1 rfl rfl rfl ?_
      obtain ⟨o7, h⟩ := g_okk h
      refine v_getI (pc := 65) C 18 rfl lf_ScopeGraphModel_25.get (g_oB o7) rfl ?_
      obtain ⟨rfl, rfl⟩ := g_so h
      exact v_iret (pc := 68) C 19 rfl hr
    · replace h := g_ifF c6 h
      have zc6 := g_tne (n := 0) (by decide) c6
      by_cases c8 : x1 = 1
      · replace h := g_ifT c8 h
        refine v_tableIn (pc := 27) C 16 69 rfl (by rw [c8]; decide) (by rw [c8]; decide) (by rw [c8]; rfl) (by decide) ?_
        refine v_aload_n (pc := 69) C 20 1 rfl rfl rfl ?_
        obtain ⟨o9, h⟩ := g_okk h
        refine v_getI (pc := 70) C 21 rfl lf_ScopeGraphModel_211.get (g_oB o9) rfl ?_
        obtain ⟨rfl, rfl⟩ := g_so h
        exact v_iret (pc := 73) C 22 rfl hr
      · replace h := g_ifF c8 h
        have zc8 := g_tne (n := 1) (by decide) c8
        by_cases c10 : x1 = 2
        · replace h := g_ifT c10 h
          refine v_tableIn (pc := 27) C 16 74 rfl (by rw [c10]; decide) (by rw [c10]; decide) (by rw [c10]; rfl) (by decide) ?_
          refine v_aload_n (pc := 74) C 23 1 rfl rfl rfl ?_
          obtain ⟨o11, h⟩ := g_okk h
          refine v_getI (pc := 75) C 24 rfl lf_ScopeGraphModel_223.get (g_oB o11) rfl ?_
          obtain ⟨rfl, rfl⟩ := g_so h
          exact v_iret (pc := 78) C 25 rfl hr
        · replace h := g_ifF c10 h
          have zc10 := g_tne (n := 2) (by decide) c10
          by_cases c12 : x1 = 3
          · replace h := g_ifT c12 h
            refine v_tableIn (pc := 27) C 16 79 rfl (by rw [c12]; decide) (by rw [c12]; decide) (by rw [c12]; rfl) (by decide) ?_
            refine v_iconst (pc := 79) C 26 0 rfl (by decide) ?_
            refine v_istore_n (pc := 80) (lv' := [(3, .int 0), (2, .int 0), (0, .ref x0), (1, .int x1)]) C 27 rfl rfl (by decide) rfl ?_
            refine v_sub [(0, .ref x0), (2, .int 0), (3, .int 0)] [2, 1, 0] rfl ?_
            exact tl_X8_count_81 (F := F) C hr _ _ _ _ _ h
          · replace h := g_ifF c12 h
            have zc12 := g_tne (n := 3) (by decide) c12
            by_cases c13 : x1 = 4
            · replace h := g_ifT c13 h
              refine v_tableIn (pc := 27) C 16 114 rfl (by rw [c13]; decide) (by rw [c13]; decide) (by rw [c13]; rfl) (by decide) ?_
              refine v_sub [(0, .ref x0), (1, .int x1), (2, .int 0)] [1, 2, 0] rfl ?_
              exact tb_X8_count_114 (F := F) C hr h
            · replace h := g_ifF c13 h
              have zc13 := g_tne (n := 4) (by decide) c13
              by_cases c14 : x1 = 5
              · replace h := g_ifT c14 h
                refine v_tableIn (pc := 27) C 16 114 rfl (by rw [c14]; decide) (by rw [c14]; decide) (by rw [c14]; rfl) (by decide) ?_
                refine v_sub [(0, .ref x0), (1, .int x1), (2, .int 0)] [1, 2, 0] rfl ?_
                exact tb_X8_count_114 (F := F) C hr h
              · replace h := g_ifF c14 h
                have zc14 := g_tne (n := 5) (by decide) c14
                refine v_tableOut (pc := 27) C 16 177 rfl (by omega) (by decide) ?_
                refine v_iload_n (pc := 177) C 84 2 rfl rfl rfl ?_
                refine v_bipush (pc := 178) C 85 6 rfl (by decide) ?_
                refine v_icmp_ne (pc := 180) C 86 190 rfl (by decide) (fun c15 => ?_) (fun c15 => ?_)
                · replace h := g_ifF c15 h
                  refine v_aload_n (pc := 190) C 90 1 rfl rfl rfl ?_
                  obtain ⟨o16, h⟩ := g_okk h
                  refine v_getI (pc := 191) C 91 rfl lf_ScopeGraphModel_157.get (g_oB o16) rfl ?_
                  obtain ⟨rfl, rfl⟩ := g_so h
                  exact v_iret (pc := 194) C 92 rfl hr
                · replace h := g_ifT c15 h
                  refine v_aload_n (pc := 183) C 87 1 rfl rfl rfl ?_
                  obtain ⟨o17, h⟩ := g_okk h
                  refine v_getI (pc := 184) C 88 rfl lf_ScopeGraphModel_304.get (g_oB o17) rfl ?_
                  refine v_goto (pc := 187) C 89 194 rfl (by decide) ?_
                  obtain ⟨rfl, rfl⟩ := g_so h
                  exact v_iret (pc := 194) C 92 rfl hr
  · replace h := g_ifF c5 h
    refine v_iconst (pc := 22) C 11 0 rfl (by decide) ?_
    obtain ⟨rfl, rfl⟩ := g_so h
    exact v_iret (pc := 23) C 12 rfl hr
def b_X8_count_15 (sh : List gS) (F : Nat) (x0 : Nat) (x1 : Int32) (y0 : Nat) (m : gM) : Option (Int32 × gM) :=
  b_X8_count_16 sh F x0 x1 0 y0 m
set_option maxRecDepth 100000 in
set_option maxHeartbeats 4000000 in
theorem tb_X8_count_15 {X : gX} {w : gW} {rr : Int32} {rm : gM} (C : gC X w K_X8_count 4 RX8 2) (hr : X.2.2.2.2.2.2.2.2.1.sig.returnType = (some .int)) {F : Nat} {x0 : Nat} {x1 : Int32} {y0 : Nat} {m : gM} (h : b_X8_count_15 w.2.2.2.2.1 F x0 x1 y0 m = some (rr, rm)) : gV X w 0 0 (gR X w (some (.int rr)) rm) 4 15 [(0, .ref x0), (1, .int x1)] [.ref y0] m := by
  unfold b_X8_count_15 at h
  refine v_iconst (pc := 15) C 8 0 rfl (by decide) ?_
  refine v_sub [(0, .ref x0), (1, .int x1)] [0, 1] rfl ?_
  exact tb_X8_count_16 (F := F) C hr h
def f_X8_count (sh : List gS) (F : Nat) (x0 : Nat) (x1 : Int32) (m : gM) : Option (Int32 × gM) :=
  if x1 < 0 then (b_X8_count_15 sh F x0 x1 x0 m) else (if (8 : Int32) ≤ x1 then (b_X8_count_15 sh F x0 x1 x0 m) else (b_X8_count_16 sh F x0 x1 1 x0 m))
set_option maxRecDepth 100000 in
set_option maxHeartbeats 4000000 in
theorem tf_X8_count {X : gX} {w : gW} {rr : Int32} {rm : gM} (C : gC X w K_X8_count 4 RX8 2) (hr : X.2.2.2.2.2.2.2.2.1.sig.returnType = (some .int)) {F : Nat} {x0 : Nat} {x1 : Int32} {m : gM} (h : f_X8_count w.2.2.2.2.1 F x0 x1 m = some (rr, rm)) : gV X w 0 0 (gR X w (some (.int rr)) rm) 4 0 [(0, .ref x0), (1, .int x1)] [] m := by
  unfold f_X8_count at h
  refine v_aload_n (pc := 0) C 0 0 rfl rfl rfl ?_
  refine v_iload_n (pc := 1) C 1 1 rfl rfl rfl ?_
  refine v_if_lt (pc := 2) C 2 15 rfl (by decide) (fun c1 => ?_) (fun c1 => ?_)
  · replace h := g_ifT c1 h
    refine v_sub [(0, .ref x0), (1, .int x1)] [0, 1] rfl ?_
    exact tb_X8_count_15 (F := F) C hr h
  · replace h := g_ifF c1 h
    refine v_iload_n (pc := 5) C 3 1 rfl rfl rfl ?_
    refine v_bipush (pc := 6) C 4 8 rfl (by decide) ?_
    refine v_icmp_ge (pc := 8) C 5 15 rfl (by decide) (fun c2 => ?_) (fun c2 => ?_)
    · replace h := g_ifT c2 h
      refine v_sub [(0, .ref x0), (1, .int x1)] [0, 1] rfl ?_
      exact tb_X8_count_15 (F := F) C hr h
    · replace h := g_ifF c2 h
      refine v_iconst (pc := 11) C 6 1 rfl (by decide) ?_
      refine v_goto (pc := 12) C 7 16 rfl (by decide) ?_
      refine v_sub [(0, .ref x0), (1, .int x1)] [0, 1] rfl ?_
      exact tb_X8_count_16 (F := F) C hr h
theorem c_X8_count {l : Launch} {w : gW} {rr : Int32} {rm : gM} (hJ : gJok w) {F : Nat} {x0 : Nat} {x1 : Int32} {m : gM} (h : f_X8_count w.2.2.2.2.1 F x0 x1 m = some (rr, rm)) : gMet l 2 yX8_count cX8_count 4 (some .int) w [.ref x0, .int x1] m (some (.int rr)) rm :=
  gMet.of hJ mf_X8_count dk_X8_count (Nat.le_of_ble_eq_true rfl) (fun X _ C hr => tf_X8_count (F := F) C hr h)
def b_X8_scope_153 (sh : List gS) (F : Nat) (k107 : Nat → Int32 → Int32 → Int32 → Int32 → gM → Option (Int32 × gM)) (x0 : Nat) (x1 : Int32) (x2 : Int32) (x4 : Int32) (y0 : Int32) (y1 : Int32) (m : gM) : Option (Int32 × gM) :=
  nm (y1 + y0) (fun v1 => nm (x4 + Int32.ofInt 1) (fun v2 => k107 x0 x1 x2 v1 v2 m))
set_option maxRecDepth 100000 in
set_option maxHeartbeats 4000000 in
theorem tb_X8_scope_153 {X : gX} {w : gW} {rr : Int32} {rm : gM} (C : gC X w K_X8_scope 5 RX8 1) (hr : X.2.2.2.2.2.2.2.2.1.sig.returnType = (some .int)) {F : Nat} {k107 : Nat → Int32 → Int32 → Int32 → Int32 → gM → Option (Int32 × gM)} (hk107 : ∀ (z0 : Nat) (z1 : Int32) (z2 : Int32) (z3 : Int32) (z4 : Int32) (m : gM), k107 z0 z1 z2 z3 z4 m = some (rr, rm) → gV X w 0 0 (gR X w (some (.int rr)) rm) 5 107 [(0, .ref z0), (1, .int z1), (2, .int z2), (3, .int z3), (4, .int z4)] [] m) {x0 : Nat} {x1 : Int32} {x2 : Int32} {x4 : Int32} {y0 : Int32} {y1 : Int32} {m : gM} (h : b_X8_scope_153 w.2.2.2.2.1 F k107 x0 x1 x2 x4 y0 y1 m = some (rr, rm)) : gV X w 0 0 (gR X w (some (.int rr)) rm) 5 153 [(0, .ref x0), (1, .int x1), (2, .int x2), (4, .int x4)] [.int y0, .int y1] m := by
  unfold b_X8_scope_153 at h
  refine v_iadd (pc := 153) C 86 rfl ?_
  refine v_topI (fun v1 ev1 => ?_)
  replace h := g_nm h ev1
  refine v_istore_n (pc := 154) (lv' := [(3, .int v1), (0, .ref x0), (1, .int x1), (2, .int x2), (4, .int x4)]) C 87 rfl rfl (by decide) rfl ?_
  refine v_iincN (pc := 155) C 88 4 (fun v2 => [(4, .int v2), (3, .int v1), (0, .ref x0), (1, .int x1), (2, .int x2)]) rfl rfl (by decide) (fun _ => rfl) (fun v2 ev2 => ?_)
  replace h := g_nm h ev2
  refine v_goto (pc := 158) C 89 107 rfl (by decide) ?_
  refine v_sub [(0, .ref x0), (1, .int x1), (2, .int x2), (3, .int v1), (4, .int v2)] [2, 3, 4, 1, 0] rfl ?_
  exact hk107 _ _ _ _ _ _ h
def b_X8_scope_144 (sh : List gS) (F : Nat) (k107 : Nat → Int32 → Int32 → Int32 → Int32 → gM → Option (Int32 × gM)) (x0 : Nat) (x1 : Int32) (x2 : Int32) (x4 : Int32) (y0 : Int32) (y1 : Int32) (m : gM) : Option (Int32 × gM) :=
  if y0 = x1 then (b_X8_scope_153 sh F k107 x0 x1 x2 x4 1 y1 m) else (b_X8_scope_153 sh F k107 x0 x1 x2 x4 0 y1 m)
set_option maxRecDepth 100000 in
set_option maxHeartbeats 4000000 in
theorem tb_X8_scope_144 {X : gX} {w : gW} {rr : Int32} {rm : gM} (C : gC X w K_X8_scope 5 RX8 1) (hr : X.2.2.2.2.2.2.2.2.1.sig.returnType = (some .int)) {F : Nat} {k107 : Nat → Int32 → Int32 → Int32 → Int32 → gM → Option (Int32 × gM)} (hk107 : ∀ (z0 : Nat) (z1 : Int32) (z2 : Int32) (z3 : Int32) (z4 : Int32) (m : gM), k107 z0 z1 z2 z3 z4 m = some (rr, rm) → gV X w 0 0 (gR X w (some (.int rr)) rm) 5 107 [(0, .ref z0), (1, .int z1), (2, .int z2), (3, .int z3), (4, .int z4)] [] m) {x0 : Nat} {x1 : Int32} {x2 : Int32} {x4 : Int32} {y0 : Int32} {y1 : Int32} {m : gM} (h : b_X8_scope_144 w.2.2.2.2.1 F k107 x0 x1 x2 x4 y0 y1 m = some (rr, rm)) : gV X w 0 0 (gR X w (some (.int rr)) rm) 5 144 [(0, .ref x0), (1, .int x1), (2, .int x2), (4, .int x4)] [.int y0, .int y1] m := by
  unfold b_X8_scope_144 at h
  refine v_iload_n (pc := 144) C 81 1 rfl rfl rfl ?_
  refine v_icmp_ne (pc := 145) C 82 152 rfl (by decide) (fun c1 => ?_) (fun c1 => ?_)
  · replace h := g_ifF c1 h
    refine v_iconst (pc := 152) C 85 0 rfl (by decide) ?_
    refine v_sub [(0, .ref x0), (1, .int x1), (2, .int x2), (4, .int x4)] [0, 1, 2, 3] rfl ?_
    exact tb_X8_scope_153 (F := F) C hr hk107 h
  · replace h := g_ifT c1 h
    refine v_iconst (pc := 148) C 83 1 rfl (by decide) ?_
    refine v_goto (pc := 149) C 84 153 rfl (by decide) ?_
    refine v_sub [(0, .ref x0), (1, .int x1), (2, .int x2), (4, .int x4)] [0, 1, 2, 3] rfl ?_
    exact tb_X8_scope_153 (F := F) C hr hk107 h
def b_X8_scope_107 (sh : List gS) (F : Nat) (k107 : Nat → Int32 → Int32 → Int32 → Int32 → gM → Option (Int32 × gM)) (x0 : Nat) (x1 : Int32) (x2 : Int32) (x3 : Int32) (x4 : Int32) (m : gM) : Option (Int32 × gM) :=
  g_if (oB sh x0 8) (if (m.1 x0 20) ≤ x4 then (some (x3, m)) else (if x2 ≤ (2 : Int32) then (some (x3, m)) else (if x2 = (3 : Int32) then ((m.2.2 x0 16).bind (fun t7 => g_if (aB sh t7 .int x4) (b_X8_scope_144 sh F k107 x0 x1 x2 x4 (m.1 t7 (x4).toNatClampNeg) x3 m))) else ((m.2.2 x0 19).bind (fun t5 => g_if (aB sh t5 .int x4) (b_X8_scope_144 sh F k107 x0 x1 x2 x4 (m.1 t5 (x4).toNatClampNeg) x3 m))))))
set_option maxRecDepth 100000 in
set_option maxHeartbeats 4000000 in
theorem tb_X8_scope_107 {X : gX} {w : gW} {rr : Int32} {rm : gM} (C : gC X w K_X8_scope 5 RX8 1) (hr : X.2.2.2.2.2.2.2.2.1.sig.returnType = (some .int)) {F : Nat} {k107 : Nat → Int32 → Int32 → Int32 → Int32 → gM → Option (Int32 × gM)} (hk107 : ∀ (z0 : Nat) (z1 : Int32) (z2 : Int32) (z3 : Int32) (z4 : Int32) (m : gM), k107 z0 z1 z2 z3 z4 m = some (rr, rm) → gV X w 0 0 (gR X w (some (.int rr)) rm) 5 107 [(0, .ref z0), (1, .int z1), (2, .int z2), (3, .int z3), (4, .int z4)] [] m) {x0 : Nat} {x1 : Int32} {x2 : Int32} {x3 : Int32} {x4 : Int32} {m : gM} (h : b_X8_scope_107 w.2.2.2.2.1 F k107 x0 x1 x2 x3 x4 m = some (rr, rm)) : gV X w 0 0 (gR X w (some (.int rr)) rm) 5 107 [(0, .ref x0), (1, .int x1), (2, .int x2), (3, .int x3), (4, .int x4)] [] m := by
  unfold b_X8_scope_107 at h
  refine v_iload (pc := 107) C 61 4 rfl rfl ?_
  refine v_aload_n (pc := 109) C 62 0 rfl rfl rfl ?_
  obtain ⟨o1, h⟩ := g_okk h
  refine v_getI (pc := 110) C 63 rfl lf_ScopeGraphModel_223.get (g_oB o1) rfl ?_
  refine v_icmp_ge (pc := 113) C 64 161 rfl (by decide) (fun c2 => ?_) (fun c2 => ?_)
  · replace h := g_ifT c2 h
    refine v_iload_n (pc := 161) C 90 3 rfl rfl rfl ?_
    obtain ⟨rfl, rfl⟩ := g_so h
    exact v_iret (pc := 162) C 91 rfl hr
  · replace h := g_ifF c2 h
    refine v_iload_n (pc := 116) C 65 2 rfl rfl rfl ?_
    refine v_iconst (pc := 117) C 66 2 rfl (by decide) ?_
    refine v_icmp_le (pc := 118) C 67 161 rfl (by decide) (fun c3 => ?_) (fun c3 => ?_)
    · replace h := g_ifT c3 h
      refine v_iload_n (pc := 161) C 90 3 rfl rfl rfl ?_
      obtain ⟨rfl, rfl⟩ := g_so h
      exact v_iret (pc := 162) C 91 rfl hr
    · replace h := g_ifF c3 h
      refine v_iload_n (pc := 121) C 68 3 rfl rfl rfl ?_
      refine v_iload_n (pc := 122) C 69 2 rfl rfl rfl ?_
      refine v_iconst (pc := 123) C 70 3 rfl (by decide) ?_
      refine v_icmp_ne (pc := 124) C 71 137 rfl (by decide) (fun c4 => ?_) (fun c4 => ?_)
      · replace h := g_ifF c4 h
        refine v_aload_n (pc := 137) C 77 0 rfl rfl rfl ?_
        obtain ⟨t5, qt5, h⟩ := g_bd h
        refine v_getR (pc := 138) C 78 rfl lf_ScopeGraphModel_50 (g_oB o1) rfl qt5 ?_
        refine v_iload (pc := 141) C 79 4 rfl rfl ?_
        obtain ⟨b6, h⟩ := g_okk h
        refine v_iald' (pc := 143) C 80 rfl b6 ?_
        refine v_sub [(0, .ref x0), (1, .int x1), (2, .int x2), (4, .int x4)] [0, 1, 2, 4] rfl ?_
        exact tb_X8_scope_144 (F := F) C hr hk107 h
      · replace h := g_ifT c4 h
        refine v_aload_n (pc := 127) C 72 0 rfl rfl rfl ?_
        obtain ⟨t7, qt7, h⟩ := g_bd h
        refine v_getR (pc := 128) C 73 rfl lf_ScopeGraphModel_41 (g_oB o1) rfl qt7 ?_
        refine v_iload (pc := 131) C 74 4 rfl rfl ?_
        obtain ⟨b8, h⟩ := g_okk h
        refine v_iald' (pc := 133) C 75 rfl b8 ?_
        refine v_goto (pc := 134) C 76 144 rfl (by decide) ?_
        refine v_sub [(0, .ref x0), (1, .int x1), (2, .int x2), (4, .int x4)] [0, 1, 2, 4] rfl ?_
        exact tb_X8_scope_144 (F := F) C hr hk107 h
def l_X8_scope_107 (sh : List gS) (F : Nat) : Nat → Nat → Int32 → Int32 → Int32 → Int32 → gM → Option (Int32 × gM)
  | 0 => fun _ _ _ _ _ _ => none
  | n + 1 => fun x0 x1 x2 x3 x4 m => b_X8_scope_107 sh F (l_X8_scope_107 sh F n) x0 x1 x2 x3 x4 m
theorem tl_X8_scope_107 {X : gX} {w : gW} {rr : Int32} {rm : gM} (C : gC X w K_X8_scope 5 RX8 1) (hr : X.2.2.2.2.2.2.2.2.1.sig.returnType = (some .int)) {F : Nat} : ∀ (n : Nat) (x0 : Nat) (x1 : Int32) (x2 : Int32) (x3 : Int32) (x4 : Int32) (m : gM), l_X8_scope_107 w.2.2.2.2.1 F n x0 x1 x2 x3 x4 m = some (rr, rm) → gV X w 0 0 (gR X w (some (.int rr)) rm) 5 107 [(0, .ref x0), (1, .int x1), (2, .int x2), (3, .int x3), (4, .int x4)] [] m := by
  intro n
  induction n with
  | zero => intro x0 x1 x2 x3 x4 m h; cases h
  | succ n ih => intro x0 x1 x2 x3 x4 m h; exact tb_X8_scope_107 (F := F) C hr ih h
def b_X8_scope_104 (sh : List gS) (F : Nat) (x0 : Nat) (x1 : Int32) (x2 : Int32) (x3 : Int32) (m : gM) : Option (Int32 × gM) :=
  l_X8_scope_107 sh F F x0 x1 x2 x3 0 m
set_option maxRecDepth 100000 in
set_option maxHeartbeats 4000000 in
theorem tb_X8_scope_104 {X : gX} {w : gW} {rr : Int32} {rm : gM} (C : gC X w K_X8_scope 5 RX8 1) (hr : X.2.2.2.2.2.2.2.2.1.sig.returnType = (some .int)) {F : Nat} {x0 : Nat} {x1 : Int32} {x2 : Int32} {x3 : Int32} {m : gM} (h : b_X8_scope_104 w.2.2.2.2.1 F x0 x1 x2 x3 m = some (rr, rm)) : gV X w 0 0 (gR X w (some (.int rr)) rm) 5 104 [(0, .ref x0), (1, .int x1), (2, .int x2), (3, .int x3)] [] m := by
  unfold b_X8_scope_104 at h
  refine v_iconst (pc := 104) C 59 0 rfl (by decide) ?_
  refine v_istore (pc := 105) (lv' := [(4, .int 0), (0, .ref x0), (1, .int x1), (2, .int x2), (3, .int x3)]) C 60 rfl (by decide) rfl ?_
  refine v_sub [(0, .ref x0), (1, .int x1), (2, .int x2), (3, .int x3), (4, .int 0)] [1, 2, 3, 4, 0] rfl ?_
  exact tl_X8_scope_107 (F := F) C hr _ _ _ _ _ _ _ h
def b_X8_scope_96 (sh : List gS) (F : Nat) (k65 : Nat → Int32 → Int32 → Int32 → Int32 → gM → Option (Int32 × gM)) (x0 : Nat) (x1 : Int32) (x2 : Int32) (x4 : Int32) (y0 : Int32) (y1 : Int32) (m : gM) : Option (Int32 × gM) :=
  nm (y1 + y0) (fun v1 => nm (x4 + Int32.ofInt 1) (fun v2 => k65 x0 x1 x2 v1 v2 m))
set_option maxRecDepth 100000 in
set_option maxHeartbeats 4000000 in
theorem tb_X8_scope_96 {X : gX} {w : gW} {rr : Int32} {rm : gM} (C : gC X w K_X8_scope 5 RX8 1) (hr : X.2.2.2.2.2.2.2.2.1.sig.returnType = (some .int)) {F : Nat} {k65 : Nat → Int32 → Int32 → Int32 → Int32 → gM → Option (Int32 × gM)} (hk65 : ∀ (z0 : Nat) (z1 : Int32) (z2 : Int32) (z3 : Int32) (z4 : Int32) (m : gM), k65 z0 z1 z2 z3 z4 m = some (rr, rm) → gV X w 0 0 (gR X w (some (.int rr)) rm) 5 65 [(0, .ref z0), (1, .int z1), (2, .int z2), (3, .int z3), (4, .int z4)] [] m) {x0 : Nat} {x1 : Int32} {x2 : Int32} {x4 : Int32} {y0 : Int32} {y1 : Int32} {m : gM} (h : b_X8_scope_96 w.2.2.2.2.1 F k65 x0 x1 x2 x4 y0 y1 m = some (rr, rm)) : gV X w 0 0 (gR X w (some (.int rr)) rm) 5 96 [(0, .ref x0), (1, .int x1), (2, .int x2), (4, .int x4)] [.int y0, .int y1] m := by
  unfold b_X8_scope_96 at h
  refine v_iadd (pc := 96) C 55 rfl ?_
  refine v_topI (fun v1 ev1 => ?_)
  replace h := g_nm h ev1
  refine v_istore_n (pc := 97) (lv' := [(3, .int v1), (0, .ref x0), (1, .int x1), (2, .int x2), (4, .int x4)]) C 56 rfl rfl (by decide) rfl ?_
  refine v_iincN (pc := 98) C 57 4 (fun v2 => [(4, .int v2), (3, .int v1), (0, .ref x0), (1, .int x1), (2, .int x2)]) rfl rfl (by decide) (fun _ => rfl) (fun v2 ev2 => ?_)
  replace h := g_nm h ev2
  refine v_goto (pc := 101) C 58 65 rfl (by decide) ?_
  refine v_sub [(0, .ref x0), (1, .int x1), (2, .int x2), (3, .int v1), (4, .int v2)] [2, 3, 4, 1, 0] rfl ?_
  exact hk65 _ _ _ _ _ _ h
def b_X8_scope_65 (sh : List gS) (F : Nat) (k65 : Nat → Int32 → Int32 → Int32 → Int32 → gM → Option (Int32 × gM)) (x0 : Nat) (x1 : Int32) (x2 : Int32) (x3 : Int32) (x4 : Int32) (m : gM) : Option (Int32 × gM) :=
  g_if (oB sh x0 8) (if (m.1 x0 15) ≤ x4 then (b_X8_scope_104 sh F x0 x1 x2 x3 m) else (if x2 = (2 : Int32) then ((m.2.2 x0 11).bind (fun t4 => g_if (aB sh t4 .int x4) (if (m.1 t4 (x4).toNatClampNeg) = x1 then (b_X8_scope_96 sh F k65 x0 x1 x2 x4 1 x3 m) else (b_X8_scope_96 sh F k65 x0 x1 x2 x4 0 x3 m)))) else (b_X8_scope_104 sh F x0 x1 x2 x3 m)))
set_option maxRecDepth 100000 in
set_option maxHeartbeats 4000000 in
theorem tb_X8_scope_65 {X : gX} {w : gW} {rr : Int32} {rm : gM} (C : gC X w K_X8_scope 5 RX8 1) (hr : X.2.2.2.2.2.2.2.2.1.sig.returnType = (some .int)) {F : Nat} {k65 : Nat → Int32 → Int32 → Int32 → Int32 → gM → Option (Int32 × gM)} (hk65 : ∀ (z0 : Nat) (z1 : Int32) (z2 : Int32) (z3 : Int32) (z4 : Int32) (m : gM), k65 z0 z1 z2 z3 z4 m = some (rr, rm) → gV X w 0 0 (gR X w (some (.int rr)) rm) 5 65 [(0, .ref z0), (1, .int z1), (2, .int z2), (3, .int z3), (4, .int z4)] [] m) {x0 : Nat} {x1 : Int32} {x2 : Int32} {x3 : Int32} {x4 : Int32} {m : gM} (h : b_X8_scope_65 w.2.2.2.2.1 F k65 x0 x1 x2 x3 x4 m = some (rr, rm)) : gV X w 0 0 (gR X w (some (.int rr)) rm) 5 65 [(0, .ref x0), (1, .int x1), (2, .int x2), (3, .int x3), (4, .int x4)] [] m := by
  unfold b_X8_scope_65 at h
  refine v_iload (pc := 65) C 38 4 rfl rfl ?_
  refine v_aload_n (pc := 67) C 39 0 rfl rfl rfl ?_
  obtain ⟨o1, h⟩ := g_okk h
  refine v_getI (pc := 68) C 40 rfl lf_ScopeGraphModel_211.get (g_oB o1) rfl ?_
  refine v_icmp_ge (pc := 71) C 41 104 rfl (by decide) (fun c2 => ?_) (fun c2 => ?_)
  · replace h := g_ifT c2 h
    refine v_sub [(0, .ref x0), (1, .int x1), (2, .int x2), (3, .int x3)] [0, 1, 2, 3] rfl ?_
    exact tb_X8_scope_104 (F := F) C hr h
  · replace h := g_ifF c2 h
    refine v_iload_n (pc := 74) C 42 2 rfl rfl rfl ?_
    refine v_iconst (pc := 75) C 43 2 rfl (by decide) ?_
    refine v_icmp_ne (pc := 76) C 44 104 rfl (by decide) (fun c3 => ?_) (fun c3 => ?_)
    · replace h := g_ifF c3 h
      refine v_sub [(0, .ref x0), (1, .int x1), (2, .int x2), (3, .int x3)] [0, 1, 2, 3] rfl ?_
      exact tb_X8_scope_104 (F := F) C hr h
    · replace h := g_ifT c3 h
      refine v_iload_n (pc := 79) C 45 3 rfl rfl rfl ?_
      refine v_aload_n (pc := 80) C 46 0 rfl rfl rfl ?_
      obtain ⟨t4, qt4, h⟩ := g_bd h
      refine v_getR (pc := 81) C 47 rfl lf_ScopeGraphModel_29 (g_oB o1) rfl qt4 ?_
      refine v_iload (pc := 84) C 48 4 rfl rfl ?_
      obtain ⟨b5, h⟩ := g_okk h
      refine v_iald' (pc := 86) C 49 rfl b5 ?_
      refine v_iload_n (pc := 87) C 50 1 rfl rfl rfl ?_
      refine v_icmp_ne (pc := 88) C 51 95 rfl (by decide) (fun c6 => ?_) (fun c6 => ?_)
      · replace h := g_ifF c6 h
        refine v_iconst (pc := 95) C 54 0 rfl (by decide) ?_
        refine v_sub [(0, .ref x0), (1, .int x1), (2, .int x2), (4, .int x4)] [0, 1, 2, 4] rfl ?_
        exact tb_X8_scope_96 (F := F) C hr hk65 h
      · replace h := g_ifT c6 h
        refine v_iconst (pc := 91) C 52 1 rfl (by decide) ?_
        refine v_goto (pc := 92) C 53 96 rfl (by decide) ?_
        refine v_sub [(0, .ref x0), (1, .int x1), (2, .int x2), (4, .int x4)] [0, 1, 2, 4] rfl ?_
        exact tb_X8_scope_96 (F := F) C hr hk65 h
def l_X8_scope_65 (sh : List gS) (F : Nat) : Nat → Nat → Int32 → Int32 → Int32 → Int32 → gM → Option (Int32 × gM)
  | 0 => fun _ _ _ _ _ _ => none
  | n + 1 => fun x0 x1 x2 x3 x4 m => b_X8_scope_65 sh F (l_X8_scope_65 sh F n) x0 x1 x2 x3 x4 m
theorem tl_X8_scope_65 {X : gX} {w : gW} {rr : Int32} {rm : gM} (C : gC X w K_X8_scope 5 RX8 1) (hr : X.2.2.2.2.2.2.2.2.1.sig.returnType = (some .int)) {F : Nat} : ∀ (n : Nat) (x0 : Nat) (x1 : Int32) (x2 : Int32) (x3 : Int32) (x4 : Int32) (m : gM), l_X8_scope_65 w.2.2.2.2.1 F n x0 x1 x2 x3 x4 m = some (rr, rm) → gV X w 0 0 (gR X w (some (.int rr)) rm) 5 65 [(0, .ref x0), (1, .int x1), (2, .int x2), (3, .int x3), (4, .int x4)] [] m := by
  intro n
  induction n with
  | zero => intro x0 x1 x2 x3 x4 m h; cases h
  | succ n ih => intro x0 x1 x2 x3 x4 m h; exact tb_X8_scope_65 (F := F) C hr ih h
def b_X8_scope_27 (sh : List gS) (F : Nat) (x0 : Nat) (x1 : Int32) (x2 : Int32) (y0 : Int32) (y1 : Nat) (m : gM) : Option (Int32 × gM) :=
  g_if (oB sh y1 8) ((f_X8_fails sh F y1 y0 m).bind (fun q4 => nm q4.1 (fun r3 => nm q4.2 (fun m2 => if r3 = 0 then (if (2 : Int32) ≤ x2 then (l_X8_scope_65 sh F F x0 x1 x2 0 0 m2) else (if x2 = 0 then (g_if (oB sh x0 8) ((m2.2.2 x0 8).bind (fun t12 => g_if (aB sh t12 .int x1) (some (m2.1 t12 (x1).toNatClampNeg, m2))))) else (g_if (oB sh x0 8) ((m2.2.2 x0 9).bind (fun t9 => g_if (aB sh t9 .int x1) (some (m2.1 t9 (x1).toNatClampNeg, m2))))))) else (some (0, m2))))))
set_option maxRecDepth 100000 in
set_option maxHeartbeats 4000000 in
theorem tb_X8_scope_27 {X : gX} {w : gW} {rr : Int32} {rm : gM} (C : gC X w K_X8_scope 5 RX8 1) (hr : X.2.2.2.2.2.2.2.2.1.sig.returnType = (some .int)) {F : Nat} {x0 : Nat} {x1 : Int32} {x2 : Int32} {y0 : Int32} {y1 : Nat} {m : gM} (h : b_X8_scope_27 w.2.2.2.2.1 F x0 x1 x2 y0 y1 m = some (rr, rm)) : gV X w 0 0 (gR X w (some (.int rr)) rm) 5 27 [(0, .ref x0), (1, .int x1), (2, .int x2)] [.int y0, .ref y1] m := by
  unfold b_X8_scope_27 at h
  obtain ⟨o1, h⟩ := g_okk h
  obtain ⟨⟨r3, m2⟩, qm2, h⟩ := g_bd h
  replace h := g_nm (y := m2) (g_nm (y := r3) h rfl) rfl
  refine v_callV (pc := 27) C 15 rfl mf_X8_fails clX8 rfl im_X8_fails lm_ScopeGraphModel_160 (c_X8_fails C.2.2.2.2.2.2.2.2.2.2.2 qm2) (by decide) rfl (g_oB o1) (Nat.le_of_ble_eq_true rfl) ⟨Nat.zero_le _, Nat.zero_le _⟩ rfl ?_
  change gV X w 0 0 (gR X w (some (.int rr)) rm) 5 30 [(0, .ref x0), (1, .int x1), (2, .int x2)] [.int r3] m2
  refine v_if_eq (pc := 30) C 16 35 rfl (by decide) (fun c5 => ?_) (fun c5 => ?_)
  · replace h := g_ifT c5 h
    refine v_iload_n (pc := 35) C 19 2 rfl rfl rfl ?_
    refine v_iconst (pc := 36) C 20 2 rfl (by decide) ?_
    refine v_icmp_ge (pc := 37) C 21 60 rfl (by decide) (fun c6 => ?_) (fun c6 => ?_)
    · replace h := g_ifT c6 h
      refine v_iconst (pc := 60) C 34 0 rfl (by decide) ?_
      refine v_istore_n (pc := 61) (lv' := [(3, .int 0), (0, .ref x0), (1, .int x1), (2, .int x2)]) C 35 rfl rfl (by decide) rfl ?_
      refine v_iconst (pc := 62) C 36 0 rfl (by decide) ?_
      refine v_istore (pc := 63) (lv' := [(4, .int 0), (3, .int 0), (0, .ref x0), (1, .int x1), (2, .int x2)]) C 37 rfl (by decide) rfl ?_
      refine v_sub [(0, .ref x0), (1, .int x1), (2, .int x2), (3, .int 0), (4, .int 0)] [2, 3, 4, 1, 0] rfl ?_
      exact tl_X8_scope_65 (F := F) C hr _ _ _ _ _ _ _ h
    · replace h := g_ifF c6 h
      refine v_iload_n (pc := 40) C 22 2 rfl rfl rfl ?_
      refine v_if_ne (pc := 41) C 23 53 rfl (by decide) (fun c7 => ?_) (fun c7 => ?_)
      · replace h := g_ifF c7 h
        refine v_aload_n (pc := 53) C 29 0 rfl rfl rfl ?_
        obtain ⟨o8, h⟩ := g_okk h
        obtain ⟨t9, qt9, h⟩ := g_bd h
        refine v_getR (pc := 54) C 30 rfl lf_ScopeGraphModel_22 (g_oB o8) rfl qt9 ?_
        refine v_iload_n (pc := 57) C 31 1 rfl rfl rfl ?_
        obtain ⟨b10, h⟩ := g_okk h
        refine v_iald' (pc := 58) C 32 rfl b10 ?_
        obtain ⟨rfl, rfl⟩ := g_so h
        exact v_iret (pc := 59) C 33 rfl hr
      · replace h := g_ifT c7 h
        refine v_aload_n (pc := 44) C 24 0 rfl rfl rfl ?_
        obtain ⟨o11, h⟩ := g_okk h
        obtain ⟨t12, qt12, h⟩ := g_bd h
        refine v_getR (pc := 45) C 25 rfl lf_ScopeGraphModel_19 (g_oB o11) rfl qt12 ?_
        refine v_iload_n (pc := 48) C 26 1 rfl rfl rfl ?_
        obtain ⟨b13, h⟩ := g_okk h
        refine v_iald' (pc := 49) C 27 rfl b13 ?_
        refine v_goto (pc := 50) C 28 59 rfl (by decide) ?_
        obtain ⟨rfl, rfl⟩ := g_so h
        exact v_iret (pc := 59) C 33 rfl hr
  · replace h := g_ifF c5 h
    refine v_iconst (pc := 33) C 17 0 rfl (by decide) ?_
    obtain ⟨rfl, rfl⟩ := g_so h
    exact v_iret (pc := 34) C 18 rfl hr
def b_X8_scope_26 (sh : List gS) (F : Nat) (x0 : Nat) (x1 : Int32) (x2 : Int32) (y0 : Nat) (m : gM) : Option (Int32 × gM) :=
  b_X8_scope_27 sh F x0 x1 x2 0 y0 m
set_option maxRecDepth 100000 in
set_option maxHeartbeats 4000000 in
theorem tb_X8_scope_26 {X : gX} {w : gW} {rr : Int32} {rm : gM} (C : gC X w K_X8_scope 5 RX8 1) (hr : X.2.2.2.2.2.2.2.2.1.sig.returnType = (some .int)) {F : Nat} {x0 : Nat} {x1 : Int32} {x2 : Int32} {y0 : Nat} {m : gM} (h : b_X8_scope_26 w.2.2.2.2.1 F x0 x1 x2 y0 m = some (rr, rm)) : gV X w 0 0 (gR X w (some (.int rr)) rm) 5 26 [(0, .ref x0), (1, .int x1), (2, .int x2)] [.ref y0] m := by
  unfold b_X8_scope_26 at h
  refine v_iconst (pc := 26) C 14 0 rfl (by decide) ?_
  refine v_sub [(0, .ref x0), (1, .int x1), (2, .int x2)] [0, 1, 2] rfl ?_
  exact tb_X8_scope_27 (F := F) C hr h
def f_X8_scope (sh : List gS) (F : Nat) (x0 : Nat) (x1 : Int32) (x2 : Int32) (m : gM) : Option (Int32 × gM) :=
  if x1 < 0 then (b_X8_scope_26 sh F x0 x1 x2 x0 m) else (g_if (oB sh x0 8) (if (m.1 x0 10) ≤ x1 then (b_X8_scope_26 sh F x0 x1 x2 x0 m) else (if x2 < 0 then (b_X8_scope_26 sh F x0 x1 x2 x0 m) else (if (5 : Int32) ≤ x2 then (b_X8_scope_26 sh F x0 x1 x2 x0 m) else (b_X8_scope_27 sh F x0 x1 x2 1 x0 m)))))
set_option maxRecDepth 100000 in
set_option maxHeartbeats 4000000 in
theorem tf_X8_scope {X : gX} {w : gW} {rr : Int32} {rm : gM} (C : gC X w K_X8_scope 5 RX8 1) (hr : X.2.2.2.2.2.2.2.2.1.sig.returnType = (some .int)) {F : Nat} {x0 : Nat} {x1 : Int32} {x2 : Int32} {m : gM} (h : f_X8_scope w.2.2.2.2.1 F x0 x1 x2 m = some (rr, rm)) : gV X w 0 0 (gR X w (some (.int rr)) rm) 5 0 [(0, .ref x0), (1, .int x1), (2, .int x2)] [] m := by
  unfold f_X8_scope at h
  refine v_aload_n (pc := 0) C 0 0 rfl rfl rfl ?_
  refine v_iload_n (pc := 1) C 1 1 rfl rfl rfl ?_
  refine v_if_lt (pc := 2) C 2 26 rfl (by decide) (fun c1 => ?_) (fun c1 => ?_)
  · replace h := g_ifT c1 h
    refine v_sub [(0, .ref x0), (1, .int x1), (2, .int x2)] [0, 1, 2] rfl ?_
    exact tb_X8_scope_26 (F := F) C hr h
  · replace h := g_ifF c1 h
    refine v_iload_n (pc := 5) C 3 1 rfl rfl rfl ?_
    refine v_aload_n (pc := 6) C 4 0 rfl rfl rfl ?_
    obtain ⟨o2, h⟩ := g_okk h
    refine v_getI (pc := 7) C 5 rfl lf_ScopeGraphModel_25.get (g_oB o2) rfl ?_
    refine v_icmp_ge (pc := 10) C 6 26 rfl (by decide) (fun c3 => ?_) (fun c3 => ?_)
    · replace h := g_ifT c3 h
      refine v_sub [(0, .ref x0), (1, .int x1), (2, .int x2)] [0, 1, 2] rfl ?_
      exact tb_X8_scope_26 (F := F) C hr h
    · replace h := g_ifF c3 h
      refine v_iload_n (pc := 13) C 7 2 rfl rfl rfl ?_
      refine v_if_lt (pc := 14) C 8 26 rfl (by decide) (fun c4 => ?_) (fun c4 => ?_)
      · replace h := g_ifT c4 h
        refine v_sub [(0, .ref x0), (1, .int x1), (2, .int x2)] [0, 1, 2] rfl ?_
        exact tb_X8_scope_26 (F := F) C hr h
      · replace h := g_ifF c4 h
        refine v_iload_n (pc := 17) C 9 2 rfl rfl rfl ?_
        refine v_iconst (pc := 18) C 10 5 rfl (by decide) ?_
        refine v_icmp_ge (pc := 19) C 11 26 rfl (by decide) (fun c5 => ?_) (fun c5 => ?_)
        · replace h := g_ifT c5 h
          refine v_sub [(0, .ref x0), (1, .int x1), (2, .int x2)] [0, 1, 2] rfl ?_
          exact tb_X8_scope_26 (F := F) C hr h
        · replace h := g_ifF c5 h
          refine v_iconst (pc := 22) C 12 1 rfl (by decide) ?_
          refine v_goto (pc := 23) C 13 27 rfl (by decide) ?_
          refine v_sub [(0, .ref x0), (1, .int x1), (2, .int x2)] [0, 1, 2] rfl ?_
          exact tb_X8_scope_27 (F := F) C hr h
theorem c_X8_scope {l : Launch} {w : gW} {rr : Int32} {rm : gM} (hJ : gJok w) {F : Nat} {x0 : Nat} {x1 : Int32} {x2 : Int32} {m : gM} (h : f_X8_scope w.2.2.2.2.1 F x0 x1 x2 m = some (rr, rm)) : gMet l 1 yX8_scope cX8_scope 5 (some .int) w [.ref x0, .int x1, .int x2] m (some (.int rr)) rm :=
  gMet.of hJ mf_X8_scope dk_X8_scope (Nat.le_of_ble_eq_true rfl) (fun X _ C hr => tf_X8_scope (F := F) C hr h)
def b_X8_friendsOf_73 (sh : List gS) (F : Nat) (k7 : Nat → Int64 → Int32 → gM → Option (Int64 × gM)) (x0 : Nat) (x2 : Int64) (y0 : Int32) (m : gM) : Option (Int64 × gM) :=
  k7 x0 x2 y0 m
set_option maxRecDepth 100000 in
set_option maxHeartbeats 4000000 in
theorem tb_X8_friendsOf_73 {X : gX} {w : gW} {rr : Int64} {rm : gM} (C : gC X w K_X8_friendsOf 8 RX8 0) (hr : X.2.2.2.2.2.2.2.2.1.sig.returnType = (some .long)) {F : Nat} {k7 : Nat → Int64 → Int32 → gM → Option (Int64 × gM)} (hk7 : ∀ (z0 : Nat) (z2 : Int64) (z4 : Int32) (m : gM), k7 z0 z2 z4 m = some (rr, rm) → gV X w 0 0 (gR X w (some (.long rr)) rm) 8 7 [(0, .ref z0), (2, .long z2), (4, .int z4)] [] m) {x0 : Nat} {x2 : Int64} {y0 : Int32} {m : gM} (h : b_X8_friendsOf_73 w.2.2.2.2.1 F k7 x0 x2 y0 m = some (rr, rm)) : gV X w 0 0 (gR X w (some (.long rr)) rm) 8 73 [(0, .ref x0), (2, .long x2)] [.int y0] m := by
  unfold b_X8_friendsOf_73 at h
  refine v_istore (pc := 73) (lv' := [(4, .int y0), (0, .ref x0), (2, .long x2)]) C 43 rfl (by decide) rfl ?_
  refine v_goto (pc := 75) C 44 7 rfl (by decide) ?_
  refine v_sub [(0, .ref x0), (2, .long x2), (4, .int y0)] [1, 2, 0] rfl ?_
  exact hk7 _ _ _ _ h
def b_X8_friendsOf_53 (sh : List gS) (F : Nat) (k7 : Nat → Int64 → Int32 → gM → Option (Int64 × gM)) (k18 : Nat → Int64 → Int64 → Int32 → gM → Option (Int64 × gM)) (x0 : Nat) (x5 : Int64) (x7 : Int32) (y0 : Int64) (y1 : Int64) (m : gM) : Option (Int64 × gM) :=
  nm (y1 ||| y0) (fun v1 => nm (x7 + Int32.ofInt 1) (fun v2 => k18 x0 v1 x5 v2 m))
set_option maxRecDepth 100000 in
set_option maxHeartbeats 4000000 in
theorem tb_X8_friendsOf_53 {X : gX} {w : gW} {rr : Int64} {rm : gM} (C : gC X w K_X8_friendsOf 8 RX8 0) (hr : X.2.2.2.2.2.2.2.2.1.sig.returnType = (some .long)) {F : Nat} {k7 : Nat → Int64 → Int32 → gM → Option (Int64 × gM)} {k18 : Nat → Int64 → Int64 → Int32 → gM → Option (Int64 × gM)} (hk7 : ∀ (z0 : Nat) (z2 : Int64) (z4 : Int32) (m : gM), k7 z0 z2 z4 m = some (rr, rm) → gV X w 0 0 (gR X w (some (.long rr)) rm) 8 7 [(0, .ref z0), (2, .long z2), (4, .int z4)] [] m) (hk18 : ∀ (z0 : Nat) (z2 : Int64) (z5 : Int64) (z7 : Int32) (m : gM), k18 z0 z2 z5 z7 m = some (rr, rm) → gV X w 0 0 (gR X w (some (.long rr)) rm) 8 18 [(0, .ref z0), (2, .long z2), (5, .long z5), (7, .int z7)] [] m) {x0 : Nat} {x5 : Int64} {x7 : Int32} {y0 : Int64} {y1 : Int64} {m : gM} (h : b_X8_friendsOf_53 w.2.2.2.2.1 F k7 k18 x0 x5 x7 y0 y1 m = some (rr, rm)) : gV X w 0 0 (gR X w (some (.long rr)) rm) 8 53 [(0, .ref x0), (5, .long x5), (7, .int x7)] [.long y0, .long y1] m := by
  unfold b_X8_friendsOf_53 at h
  refine v_lor (pc := 53) C 32 rfl ?_
  refine v_topJ (fun v1 ev1 => ?_)
  replace h := g_nm h ev1
  refine v_lstore_n (pc := 54) (lv' := [(2, .long v1), (0, .ref x0), (5, .long x5), (7, .int x7)]) C 33 rfl rfl (by decide) rfl ?_
  refine v_iincN (pc := 55) C 34 3 (fun v2 => [(7, .int v2), (2, .long v1), (0, .ref x0), (5, .long x5)]) rfl rfl (by decide) (fun _ => rfl) (fun v2 ev2 => ?_)
  replace h := g_nm h ev2
  refine v_goto (pc := 58) C 35 18 rfl (by decide) ?_
  refine v_sub [(0, .ref x0), (2, .long v1), (5, .long x5), (7, .int v2)] [2, 1, 3, 0] rfl ?_
  exact hk18 _ _ _ _ _ h
def b_X8_friendsOf_18 (sh : List gS) (F : Nat) (k7 : Nat → Int64 → Int32 → gM → Option (Int64 × gM)) (k18 : Nat → Int64 → Int64 → Int32 → gM → Option (Int64 × gM)) (x0 : Nat) (x2 : Int64) (x5 : Int64) (x7 : Int32) (m : gM) : Option (Int64 × gM) :=
  g_if (oB sh x0 8) (if (m.1 x0 20) ≤ x7 then (if x2 = x5 then (b_X8_friendsOf_73 sh F k7 x0 x2 0 m) else (b_X8_friendsOf_73 sh F k7 x0 x2 1 m)) else ((m.2.2 x0 68).bind (fun t4 => g_if (aB sh t4 .long x7) (if ((m.2.1 t4 (x7).toNatClampNeg) &&& x2) = (0 : Int64) then (b_X8_friendsOf_53 sh F k7 k18 x0 x5 x7 0 x2 m) else ((m.2.2 x0 68).bind (fun t7 => g_if (aB sh t7 .long x7) (b_X8_friendsOf_53 sh F k7 k18 x0 x5 x7 (m.2.1 t7 (x7).toNatClampNeg) x2 m)))))))
set_option maxRecDepth 100000 in
set_option maxHeartbeats 4000000 in
theorem tb_X8_friendsOf_18 {X : gX} {w : gW} {rr : Int64} {rm : gM} (C : gC X w K_X8_friendsOf 8 RX8 0) (hr : X.2.2.2.2.2.2.2.2.1.sig.returnType = (some .long)) {F : Nat} {k7 : Nat → Int64 → Int32 → gM → Option (Int64 × gM)} {k18 : Nat → Int64 → Int64 → Int32 → gM → Option (Int64 × gM)} (hk7 : ∀ (z0 : Nat) (z2 : Int64) (z4 : Int32) (m : gM), k7 z0 z2 z4 m = some (rr, rm) → gV X w 0 0 (gR X w (some (.long rr)) rm) 8 7 [(0, .ref z0), (2, .long z2), (4, .int z4)] [] m) (hk18 : ∀ (z0 : Nat) (z2 : Int64) (z5 : Int64) (z7 : Int32) (m : gM), k18 z0 z2 z5 z7 m = some (rr, rm) → gV X w 0 0 (gR X w (some (.long rr)) rm) 8 18 [(0, .ref z0), (2, .long z2), (5, .long z5), (7, .int z7)] [] m) {x0 : Nat} {x2 : Int64} {x5 : Int64} {x7 : Int32} {m : gM} (h : b_X8_friendsOf_18 w.2.2.2.2.1 F k7 k18 x0 x2 x5 x7 m = some (rr, rm)) : gV X w 0 0 (gR X w (some (.long rr)) rm) 8 18 [(0, .ref x0), (2, .long x2), (5, .long x5), (7, .int x7)] [] m := by
  unfold b_X8_friendsOf_18 at h
  refine v_iload (pc := 18) C 12 3 rfl rfl ?_
  refine v_aload_n (pc := 20) C 13 0 rfl rfl rfl ?_
  obtain ⟨o1, h⟩ := g_okk h
  refine v_getI (pc := 21) C 14 rfl lf_ScopeGraphModel_223.get (g_oB o1) rfl ?_
  refine v_icmp_ge (pc := 24) C 15 61 rfl (by decide) (fun c2 => ?_) (fun c2 => ?_)
  · replace h := g_ifT c2 h
    refine v_lload_n (pc := 61) C 36 1 rfl rfl rfl ?_
    refine v_lload (pc := 62) C 37 2 rfl rfl ?_
    refine v_lcmp (pc := 64) C 38 rfl ?_
    refine v_lif_eq (pc := 65) C 39 72 rfl (by decide) (fun c3 => ?_) (fun c3 => ?_)
    · replace h := g_ifT c3 h
      refine v_iconst (pc := 72) C 42 0 rfl (by decide) ?_
      refine v_sub [(0, .ref x0), (2, .long x2)] [0, 1] rfl ?_
      exact tb_X8_friendsOf_73 (F := F) C hr hk7 h
    · replace h := g_ifF c3 h
      refine v_iconst (pc := 68) C 40 1 rfl (by decide) ?_
      refine v_goto (pc := 69) C 41 73 rfl (by decide) ?_
      refine v_sub [(0, .ref x0), (2, .long x2)] [0, 1] rfl ?_
      exact tb_X8_friendsOf_73 (F := F) C hr hk7 h
  · replace h := g_ifF c2 h
    refine v_lload_n (pc := 27) C 16 1 rfl rfl rfl ?_
    refine v_aload_n (pc := 28) C 17 0 rfl rfl rfl ?_
    obtain ⟨t4, qt4, h⟩ := g_bd h
    refine v_getR (pc := 29) C 18 rfl lf_ScopeGraphModel_138 (g_oB o1) rfl qt4 ?_
    refine v_iload (pc := 32) C 19 3 rfl rfl ?_
    obtain ⟨b5, h⟩ := g_okk h
    refine v_lald' (pc := 34) C 20 rfl b5 ?_
    refine v_lload_n (pc := 35) C 21 1 rfl rfl rfl ?_
    refine v_land (pc := 36) C 22 rfl ?_
    refine v_lconst (pc := 37) C 23 0 rfl (by decide) ?_
    refine v_lcmp (pc := 38) C 24 rfl ?_
    refine v_lif_eq (pc := 39) C 25 52 rfl (by decide) (fun c6 => ?_) (fun c6 => ?_)
    · replace h := g_ifT c6 h
      refine v_lconst (pc := 52) C 31 0 rfl (by decide) ?_
      refine v_sub [(0, .ref x0), (5, .long x5), (7, .int x7)] [0, 2, 3] rfl ?_
      exact tb_X8_friendsOf_53 (F := F) C hr hk7 hk18 h
    · replace h := g_ifF c6 h
      refine v_aload_n (pc := 42) C 26 0 rfl rfl rfl ?_
      obtain ⟨t7, qt7, h⟩ := g_bd h
      refine v_getR (pc := 43) C 27 rfl lf_ScopeGraphModel_138 (g_oB o1) rfl qt7 ?_
      refine v_iload (pc := 46) C 28 3 rfl rfl ?_
      obtain ⟨b8, h⟩ := g_okk h
      refine v_lald' (pc := 48) C 29 rfl b8 ?_
      refine v_goto (pc := 49) C 30 53 rfl (by decide) ?_
      refine v_sub [(0, .ref x0), (5, .long x5), (7, .int x7)] [0, 2, 3] rfl ?_
      exact tb_X8_friendsOf_53 (F := F) C hr hk7 hk18 h
def l_X8_friendsOf_18 (sh : List gS) (F : Nat) (k7 : Nat → Int64 → Int32 → gM → Option (Int64 × gM)) : Nat → Nat → Int64 → Int64 → Int32 → gM → Option (Int64 × gM)
  | 0 => fun _ _ _ _ _ => none
  | n + 1 => fun x0 x2 x5 x7 m => b_X8_friendsOf_18 sh F k7 (l_X8_friendsOf_18 sh F k7 n) x0 x2 x5 x7 m
theorem tl_X8_friendsOf_18 {X : gX} {w : gW} {rr : Int64} {rm : gM} (C : gC X w K_X8_friendsOf 8 RX8 0) (hr : X.2.2.2.2.2.2.2.2.1.sig.returnType = (some .long)) {F : Nat} {k7 : Nat → Int64 → Int32 → gM → Option (Int64 × gM)} (hk7 : ∀ (z0 : Nat) (z2 : Int64) (z4 : Int32) (m : gM), k7 z0 z2 z4 m = some (rr, rm) → gV X w 0 0 (gR X w (some (.long rr)) rm) 8 7 [(0, .ref z0), (2, .long z2), (4, .int z4)] [] m) : ∀ (n : Nat) (x0 : Nat) (x2 : Int64) (x5 : Int64) (x7 : Int32) (m : gM), l_X8_friendsOf_18 w.2.2.2.2.1 F k7 n x0 x2 x5 x7 m = some (rr, rm) → gV X w 0 0 (gR X w (some (.long rr)) rm) 8 18 [(0, .ref x0), (2, .long x2), (5, .long x5), (7, .int x7)] [] m := by
  intro n
  induction n with
  | zero => intro x0 x2 x5 x7 m h; cases h
  | succ n ih => intro x0 x2 x5 x7 m h; exact tb_X8_friendsOf_18 (F := F) C hr hk7 ih h
def b_X8_friendsOf_7 (sh : List gS) (F : Nat) (k7 : Nat → Int64 → Int32 → gM → Option (Int64 × gM)) (x0 : Nat) (x2 : Int64) (x4 : Int32) (m : gM) : Option (Int64 × gM) :=
  if x4 = 0 then (some (x2, m)) else (l_X8_friendsOf_18 sh F k7 F x0 x2 x2 0 m)
set_option maxRecDepth 100000 in
set_option maxHeartbeats 4000000 in
theorem tb_X8_friendsOf_7 {X : gX} {w : gW} {rr : Int64} {rm : gM} (C : gC X w K_X8_friendsOf 8 RX8 0) (hr : X.2.2.2.2.2.2.2.2.1.sig.returnType = (some .long)) {F : Nat} {k7 : Nat → Int64 → Int32 → gM → Option (Int64 × gM)} (hk7 : ∀ (z0 : Nat) (z2 : Int64) (z4 : Int32) (m : gM), k7 z0 z2 z4 m = some (rr, rm) → gV X w 0 0 (gR X w (some (.long rr)) rm) 8 7 [(0, .ref z0), (2, .long z2), (4, .int z4)] [] m) {x0 : Nat} {x2 : Int64} {x4 : Int32} {m : gM} (h : b_X8_friendsOf_7 w.2.2.2.2.1 F k7 x0 x2 x4 m = some (rr, rm)) : gV X w 0 0 (gR X w (some (.long rr)) rm) 8 7 [(0, .ref x0), (2, .long x2), (4, .int x4)] [] m := by
  unfold b_X8_friendsOf_7 at h
  refine v_iload (pc := 7) C 6 2 rfl rfl ?_
  refine v_if_eq (pc := 9) C 7 78 rfl (by decide) (fun c1 => ?_) (fun c1 => ?_)
  · replace h := g_ifT c1 h
    refine v_lload_n (pc := 78) C 45 1 rfl rfl rfl ?_
    obtain ⟨rfl, rfl⟩ := g_so h
    exact v_lret (pc := 79) C 46 rfl hr
  · replace h := g_ifF c1 h
    refine v_lload_n (pc := 12) C 8 1 rfl rfl rfl ?_
    refine v_lstore (pc := 13) (lv' := [(5, .long x2), (0, .ref x0), (2, .long x2), (4, .int x4)]) C 9 rfl (by decide) rfl ?_
    refine v_iconst (pc := 15) C 10 0 rfl (by decide) ?_
    refine v_istore (pc := 16) (lv' := [(7, .int 0), (5, .long x2), (0, .ref x0), (2, .long x2), (4, .int x4)]) C 11 rfl (by decide) rfl ?_
    refine v_sub [(0, .ref x0), (2, .long x2), (5, .long x2), (7, .int 0)] [2, 3, 1, 0] rfl ?_
    exact tl_X8_friendsOf_18 (F := F) C hr hk7 _ _ _ _ _ _ h
def l_X8_friendsOf_7 (sh : List gS) (F : Nat) : Nat → Nat → Int64 → Int32 → gM → Option (Int64 × gM)
  | 0 => fun _ _ _ _ => none
  | n + 1 => fun x0 x2 x4 m => b_X8_friendsOf_7 sh F (l_X8_friendsOf_7 sh F n) x0 x2 x4 m
theorem tl_X8_friendsOf_7 {X : gX} {w : gW} {rr : Int64} {rm : gM} (C : gC X w K_X8_friendsOf 8 RX8 0) (hr : X.2.2.2.2.2.2.2.2.1.sig.returnType = (some .long)) {F : Nat} : ∀ (n : Nat) (x0 : Nat) (x2 : Int64) (x4 : Int32) (m : gM), l_X8_friendsOf_7 w.2.2.2.2.1 F n x0 x2 x4 m = some (rr, rm) → gV X w 0 0 (gR X w (some (.long rr)) rm) 8 7 [(0, .ref x0), (2, .long x2), (4, .int x4)] [] m := by
  intro n
  induction n with
  | zero => intro x0 x2 x4 m h; cases h
  | succ n ih => intro x0 x2 x4 m h; exact tb_X8_friendsOf_7 (F := F) C hr ih h
def f_X8_friendsOf (sh : List gS) (F : Nat) (x0 : Nat) (x1 : Int32) (m : gM) : Option (Int64 × gM) :=
  nm ((1 : Int64) <<< (x1.toInt64 &&& 63)) (fun v1 => l_X8_friendsOf_7 sh F F x0 v1 1 m)
set_option maxRecDepth 100000 in
set_option maxHeartbeats 4000000 in
theorem tf_X8_friendsOf {X : gX} {w : gW} {rr : Int64} {rm : gM} (C : gC X w K_X8_friendsOf 8 RX8 0) (hr : X.2.2.2.2.2.2.2.2.1.sig.returnType = (some .long)) {F : Nat} {x0 : Nat} {x1 : Int32} {m : gM} (h : f_X8_friendsOf w.2.2.2.2.1 F x0 x1 m = some (rr, rm)) : gV X w 0 0 (gR X w (some (.long rr)) rm) 8 0 [(0, .ref x0), (1, .int x1)] [] m := by
  unfold f_X8_friendsOf at h
  refine v_lconst (pc := 0) C 0 1 rfl (by decide) ?_
  refine v_iload_n (pc := 1) C 1 1 rfl rfl rfl ?_
  refine v_lshl (pc := 2) C 2 rfl ?_
  refine v_topJ (fun v1 ev1 => ?_)
  replace h := g_nm h ev1
  refine v_lstore_n (pc := 3) (lv' := [(2, .long v1), (0, .ref x0), (1, .int x1)]) C 3 rfl rfl (by decide) rfl ?_
  refine v_iconst (pc := 4) C 4 1 rfl (by decide) ?_
  refine v_istore (pc := 5) (lv' := [(4, .int 1), (2, .long v1), (0, .ref x0), (1, .int x1)]) C 5 rfl (by decide) rfl ?_
  refine v_sub [(0, .ref x0), (2, .long v1), (4, .int 1)] [2, 1, 0] rfl ?_
  exact tl_X8_friendsOf_7 (F := F) C hr _ _ _ _ _ h
theorem c_X8_friendsOf {l : Launch} {w : gW} {rr : Int64} {rm : gM} (hJ : gJok w) {F : Nat} {x0 : Nat} {x1 : Int32} {m : gM} (h : f_X8_friendsOf w.2.2.2.2.1 F x0 x1 m = some (rr, rm)) : gMet l 0 yX8_friendsOf cX8_friendsOf 8 (some .long) w [.ref x0, .int x1] m (some (.long rr)) rm :=
  gMet.of hJ mf_X8_friendsOf dk_X8_friendsOf (Nat.le_of_ble_eq_true rfl) (fun X _ C hr => tf_X8_friendsOf (F := F) C hr h)
def b_X8_declaration_132 (sh : List gS) (F : Nat) (k103 : Nat → Int32 → Int32 → Int32 → gM → Option (Int32 × gM)) (x0 : Nat) (x1 : Int32) (x4 : Int32) (y0 : Int32) (y1 : Int32) (m : gM) : Option (Int32 × gM) :=
  nm (y1 + y0) (fun v1 => nm (x4 + Int32.ofInt 1) (fun v2 => k103 x0 x1 v1 v2 m))
set_option maxRecDepth 100000 in
set_option maxHeartbeats 4000000 in
theorem tb_X8_declaration_132 {X : gX} {w : gW} {rr : Int32} {rm : gM} (C : gC X w K_X8_declaration 5 RX8 2) (hr : X.2.2.2.2.2.2.2.2.1.sig.returnType = (some .int)) {F : Nat} {k103 : Nat → Int32 → Int32 → Int32 → gM → Option (Int32 × gM)} (hk103 : ∀ (z0 : Nat) (z1 : Int32) (z3 : Int32) (z4 : Int32) (m : gM), k103 z0 z1 z3 z4 m = some (rr, rm) → gV X w 0 0 (gR X w (some (.int rr)) rm) 5 103 [(0, .ref z0), (1, .int z1), (3, .int z3), (4, .int z4)] [] m) {x0 : Nat} {x1 : Int32} {x4 : Int32} {y0 : Int32} {y1 : Int32} {m : gM} (h : b_X8_declaration_132 w.2.2.2.2.1 F k103 x0 x1 x4 y0 y1 m = some (rr, rm)) : gV X w 0 0 (gR X w (some (.int rr)) rm) 5 132 [(0, .ref x0), (1, .int x1), (4, .int x4)] [.int y0, .int y1] m := by
  unfold b_X8_declaration_132 at h
  refine v_iadd (pc := 132) C 60 rfl ?_
  refine v_topI (fun v1 ev1 => ?_)
  replace h := g_nm h ev1
  refine v_istore_n (pc := 133) (lv' := [(3, .int v1), (0, .ref x0), (1, .int x1), (4, .int x4)]) C 61 rfl rfl (by decide) rfl ?_
  refine v_iincN (pc := 134) C 62 3 (fun v2 => [(4, .int v2), (3, .int v1), (0, .ref x0), (1, .int x1)]) rfl rfl (by decide) (fun _ => rfl) (fun v2 ev2 => ?_)
  replace h := g_nm h ev2
  refine v_goto (pc := 137) C 63 103 rfl (by decide) ?_
  refine v_sub [(0, .ref x0), (1, .int x1), (3, .int v1), (4, .int v2)] [2, 3, 1, 0] rfl ?_
  exact hk103 _ _ _ _ _ h
def b_X8_declaration_103 (sh : List gS) (F : Nat) (k103 : Nat → Int32 → Int32 → Int32 → gM → Option (Int32 × gM)) (x0 : Nat) (x1 : Int32) (x3 : Int32) (x4 : Int32) (m : gM) : Option (Int32 × gM) :=
  g_if (oB sh x0 8) (if (m.1 x0 20) ≤ x4 then (some (x3, m)) else ((m.2.2 x0 68).bind (fun t3 => g_if (aB sh t3 .long x4) ((f_X8_has sh F (m.2.1 t3 (x4).toNatClampNeg) x1 m).bind (fun q7 => nm q7.1 (fun r6 => nm q7.2 (fun m5 => if r6 = 0 then (b_X8_declaration_132 sh F k103 x0 x1 x4 0 x3 m5) else (b_X8_declaration_132 sh F k103 x0 x1 x4 1 x3 m5))))))))
set_option maxRecDepth 100000 in
set_option maxHeartbeats 4000000 in
theorem tb_X8_declaration_103 {X : gX} {w : gW} {rr : Int32} {rm : gM} (C : gC X w K_X8_declaration 5 RX8 2) (hr : X.2.2.2.2.2.2.2.2.1.sig.returnType = (some .int)) {F : Nat} {k103 : Nat → Int32 → Int32 → Int32 → gM → Option (Int32 × gM)} (hk103 : ∀ (z0 : Nat) (z1 : Int32) (z3 : Int32) (z4 : Int32) (m : gM), k103 z0 z1 z3 z4 m = some (rr, rm) → gV X w 0 0 (gR X w (some (.int rr)) rm) 5 103 [(0, .ref z0), (1, .int z1), (3, .int z3), (4, .int z4)] [] m) {x0 : Nat} {x1 : Int32} {x3 : Int32} {x4 : Int32} {m : gM} (h : b_X8_declaration_103 w.2.2.2.2.1 F k103 x0 x1 x3 x4 m = some (rr, rm)) : gV X w 0 0 (gR X w (some (.int rr)) rm) 5 103 [(0, .ref x0), (1, .int x1), (3, .int x3), (4, .int x4)] [] m := by
  unfold b_X8_declaration_103 at h
  refine v_iload (pc := 103) C 45 3 rfl rfl ?_
  refine v_aload_n (pc := 105) C 46 0 rfl rfl rfl ?_
  obtain ⟨o1, h⟩ := g_okk h
  refine v_getI (pc := 106) C 47 rfl lf_ScopeGraphModel_223.get (g_oB o1) rfl ?_
  refine v_icmp_ge (pc := 109) C 48 140 rfl (by decide) (fun c2 => ?_) (fun c2 => ?_)
  · replace h := g_ifT c2 h
    refine v_iload_n (pc := 140) C 64 2 rfl rfl rfl ?_
    obtain ⟨rfl, rfl⟩ := g_so h
    exact v_iret (pc := 141) C 65 rfl hr
  · replace h := g_ifF c2 h
    refine v_iload_n (pc := 112) C 49 2 rfl rfl rfl ?_
    refine v_aload_n (pc := 113) C 50 0 rfl rfl rfl ?_
    obtain ⟨t3, qt3, h⟩ := g_bd h
    refine v_getR (pc := 114) C 51 rfl lf_ScopeGraphModel_138 (g_oB o1) rfl qt3 ?_
    refine v_iload (pc := 117) C 52 3 rfl rfl ?_
    obtain ⟨b4, h⟩ := g_okk h
    refine v_lald' (pc := 119) C 53 rfl b4 ?_
    refine v_iload_n (pc := 120) C 54 1 rfl rfl rfl ?_
    obtain ⟨⟨r6, m5⟩, qm5, h⟩ := g_bd h
    replace h := g_nm (y := m5) (g_nm (y := r6) h rfl) rfl
    refine v_callS (pc := 121) C 55 rfl mf_X8_has sm_X8_has lm_ScopeGraphModel_351 (c_X8_has C.2.2.2.2.2.2.2.2.2.2.2 qm5) (by decide) rfl (Nat.le_of_ble_eq_true rfl) ⟨Nat.zero_le _, Nat.zero_le _⟩ rfl ?_
    change gV X w 0 0 (gR X w (some (.int rr)) rm) 5 124 [(0, .ref x0), (1, .int x1), (3, .int x3), (4, .int x4)] [.int r6, .int x3] m5
    refine v_if_eq (pc := 124) C 56 131 rfl (by decide) (fun c8 => ?_) (fun c8 => ?_)
    · replace h := g_ifT c8 h
      refine v_iconst (pc := 131) C 59 0 rfl (by decide) ?_
      refine v_sub [(0, .ref x0), (1, .int x1), (4, .int x4)] [0, 1, 3] rfl ?_
      exact tb_X8_declaration_132 (F := F) C hr hk103 h
    · replace h := g_ifF c8 h
      refine v_iconst (pc := 127) C 57 1 rfl (by decide) ?_
      refine v_goto (pc := 128) C 58 132 rfl (by decide) ?_
      refine v_sub [(0, .ref x0), (1, .int x1), (4, .int x4)] [0, 1, 3] rfl ?_
      exact tb_X8_declaration_132 (F := F) C hr hk103 h
def l_X8_declaration_103 (sh : List gS) (F : Nat) : Nat → Nat → Int32 → Int32 → Int32 → gM → Option (Int32 × gM)
  | 0 => fun _ _ _ _ _ => none
  | n + 1 => fun x0 x1 x3 x4 m => b_X8_declaration_103 sh F (l_X8_declaration_103 sh F n) x0 x1 x3 x4 m
theorem tl_X8_declaration_103 {X : gX} {w : gW} {rr : Int32} {rm : gM} (C : gC X w K_X8_declaration 5 RX8 2) (hr : X.2.2.2.2.2.2.2.2.1.sig.returnType = (some .int)) {F : Nat} : ∀ (n : Nat) (x0 : Nat) (x1 : Int32) (x3 : Int32) (x4 : Int32) (m : gM), l_X8_declaration_103 w.2.2.2.2.1 F n x0 x1 x3 x4 m = some (rr, rm) → gV X w 0 0 (gR X w (some (.int rr)) rm) 5 103 [(0, .ref x0), (1, .int x1), (3, .int x3), (4, .int x4)] [] m := by
  intro n
  induction n with
  | zero => intro x0 x1 x3 x4 m h; cases h
  | succ n ih => intro x0 x1 x3 x4 m h; exact tb_X8_declaration_103 (F := F) C hr ih h
def b_X8_declaration_27 (sh : List gS) (F : Nat) (x0 : Nat) (x1 : Int32) (x2 : Int32) (y0 : Int32) (y1 : Nat) (m : gM) : Option (Int32 × gM) :=
  g_if (oB sh y1 8) ((f_X8_fails sh F y1 y0 m).bind (fun q4 => nm q4.1 (fun r3 => nm q4.2 (fun m2 => if r3 = 0 then (if x2 = 0 then (g_if (oB sh x0 8) ((m2.2.2 x0 11).bind (fun t8 => g_if (aB sh t8 .int x1) (some (m2.1 t8 (x1).toNatClampNeg, m2))))) else (if x2 = 1 then (g_if (oB sh x0 8) ((m2.2.2 x0 12).bind (fun t12 => g_if (aB sh t12 .int x1) (some (m2.1 t12 (x1).toNatClampNeg, m2))))) else (if x2 = 2 then (g_if (oB sh x0 8) ((m2.2.2 x0 14).bind (fun t16 => g_if (aB sh t16 .int x1) (some (m2.1 t16 (x1).toNatClampNeg, m2))))) else (if x2 = 3 then (g_if (oB sh x0 8) ((f_X8_friendsOf sh F x0 x1 m2).bind (fun q22 => nm q22.1 (fun r21 => nm q22.2 (fun m20 => (f_X8_many sh F r21 m20).bind (fun q25 => nm q25.1 (fun r24 => nm q25.2 (fun m23 => some (r24, m23))))))))) else (l_X8_declaration_103 sh F F x0 x1 0 0 m2))))) else (some (0, m2))))))
set_option maxRecDepth 100000 in
set_option maxHeartbeats 4000000 in
theorem tb_X8_declaration_27 {X : gX} {w : gW} {rr : Int32} {rm : gM} (C : gC X w K_X8_declaration 5 RX8 2) (hr : X.2.2.2.2.2.2.2.2.1.sig.returnType = (some .int)) {F : Nat} {x0 : Nat} {x1 : Int32} {x2 : Int32} {y0 : Int32} {y1 : Nat} {m : gM} (h : b_X8_declaration_27 w.2.2.2.2.1 F x0 x1 x2 y0 y1 m = some (rr, rm)) : gV X w 0 0 (gR X w (some (.int rr)) rm) 5 27 [(0, .ref x0), (1, .int x1), (2, .int x2)] [.int y0, .ref y1] m := by
  unfold b_X8_declaration_27 at h
  obtain ⟨o1, h⟩ := g_okk h
  obtain ⟨⟨r3, m2⟩, qm2, h⟩ := g_bd h
  replace h := g_nm (y := m2) (g_nm (y := r3) h rfl) rfl
  refine v_callV (pc := 27) C 15 rfl mf_X8_fails clX8 rfl im_X8_fails lm_ScopeGraphModel_160 (c_X8_fails C.2.2.2.2.2.2.2.2.2.2.2 qm2) (by decide) rfl (g_oB o1) (Nat.le_of_ble_eq_true rfl) ⟨Nat.zero_le _, Nat.zero_le _⟩ rfl ?_
  change gV X w 0 0 (gR X w (some (.int rr)) rm) 5 30 [(0, .ref x0), (1, .int x1), (2, .int x2)] [.int r3] m2
  refine v_if_eq (pc := 30) C 16 35 rfl (by decide) (fun c5 => ?_) (fun c5 => ?_)
  · replace h := g_ifT c5 h
    refine v_iload_n (pc := 35) C 19 2 rfl rfl rfl ?_
    by_cases c6 : x2 = 0
    · replace h := g_ifT c6 h
      refine v_tableIn (pc := 36) C 20 68 rfl (by rw [c6]; decide) (by rw [c6]; decide) (by rw [c6]; rfl) (by decide) ?_
      refine v_aload_n (pc := 68) C 21 0 rfl rfl rfl ?_
      obtain ⟨o7, h⟩ := g_okk h
      obtain ⟨t8, qt8, h⟩ := g_bd h
      refine v_getR (pc := 69) C 22 rfl lf_ScopeGraphModel_29 (g_oB o7) rfl qt8 ?_
      refine v_iload_n (pc := 72) C 23 1 rfl rfl rfl ?_
      obtain ⟨b9, h⟩ := g_okk h
      refine v_iald' (pc := 73) C 24 rfl b9 ?_
      obtain ⟨rfl, rfl⟩ := g_so h
      exact v_iret (pc := 74) C 25 rfl hr
    · replace h := g_ifF c6 h
      have zc6 := g_tne (n := 0) (by decide) c6
      by_cases c10 : x2 = 1
      · replace h := g_ifT c10 h
        refine v_tableIn (pc := 36) C 20 75 rfl (by rw [c10]; decide) (by rw [c10]; decide) (by rw [c10]; rfl) (by decide) ?_
        refine v_aload_n (pc := 75) C 26 0 rfl rfl rfl ?_
        obtain ⟨o11, h⟩ := g_okk h
        obtain ⟨t12, qt12, h⟩ := g_bd h
        refine v_getR (pc := 76) C 27 rfl lf_ScopeGraphModel_32 (g_oB o11) rfl qt12 ?_
        refine v_iload_n (pc := 79) C 28 1 rfl rfl rfl ?_
        obtain ⟨b13, h⟩ := g_okk h
        refine v_iald' (pc := 80) C 29 rfl b13 ?_
        obtain ⟨rfl, rfl⟩ := g_so h
        exact v_iret (pc := 81) C 30 rfl hr
      · replace h := g_ifF c10 h
        have zc10 := g_tne (n := 1) (by decide) c10
        by_cases c14 : x2 = 2
        · replace h := g_ifT c14 h
          refine v_tableIn (pc := 36) C 20 82 rfl (by rw [c14]; decide) (by rw [c14]; decide) (by rw [c14]; rfl) (by decide) ?_
          refine v_aload_n (pc := 82) C 31 0 rfl rfl rfl ?_
          obtain ⟨o15, h⟩ := g_okk h
          obtain ⟨t16, qt16, h⟩ := g_bd h
          refine v_getR (pc := 83) C 32 rfl lf_ScopeGraphModel_38 (g_oB o15) rfl qt16 ?_
          refine v_iload_n (pc := 86) C 33 1 rfl rfl rfl ?_
          obtain ⟨b17, h⟩ := g_okk h
          refine v_iald' (pc := 87) C 34 rfl b17 ?_
          obtain ⟨rfl, rfl⟩ := g_so h
          exact v_iret (pc := 88) C 35 rfl hr
        · replace h := g_ifF c14 h
          have zc14 := g_tne (n := 2) (by decide) c14
          by_cases c18 : x2 = 3
          · replace h := g_ifT c18 h
            refine v_tableIn (pc := 36) C 20 89 rfl (by rw [c18]; decide) (by rw [c18]; decide) (by rw [c18]; rfl) (by decide) ?_
            refine v_aload_n (pc := 89) C 36 0 rfl rfl rfl ?_
            refine v_iload_n (pc := 90) C 37 1 rfl rfl rfl ?_
            obtain ⟨o19, h⟩ := g_okk h
            obtain ⟨⟨r21, m20⟩, qm20, h⟩ := g_bd h
            replace h := g_nm (y := m20) (g_nm (y := r21) h rfl) rfl
            refine v_callV (pc := 91) C 38 rfl mf_X8_friendsOf clX8 rfl im_X8_friendsOf lm_ScopeGraphModel_372 (c_X8_friendsOf C.2.2.2.2.2.2.2.2.2.2.2 qm20) (by decide) rfl (g_oB o19) (Nat.le_of_ble_eq_true rfl) ⟨Nat.zero_le _, Nat.zero_le _⟩ rfl ?_
            change gV X w 0 0 (gR X w (some (.int rr)) rm) 5 94 [(0, .ref x0), (1, .int x1), (2, .int x2)] [.long r21] m20
            obtain ⟨⟨r24, m23⟩, qm23, h⟩ := g_bd h
            replace h := g_nm (y := m23) (g_nm (y := r24) h rfl) rfl
            refine v_callS (pc := 94) C 39 rfl mf_X8_many sm_X8_many lm_ScopeGraphModel_368 (c_X8_many C.2.2.2.2.2.2.2.2.2.2.2 qm23) (by decide) rfl (Nat.le_of_ble_eq_true rfl) ⟨Nat.zero_le _, Nat.zero_le _⟩ rfl ?_
            change gV X w 0 0 (gR X w (some (.int rr)) rm) 5 97 [(0, .ref x0), (1, .int x1), (2, .int x2)] [.int r24] m23
            obtain ⟨rfl, rfl⟩ := g_so h
            exact v_iret (pc := 97) C 40 rfl hr
          · replace h := g_ifF c18 h
            have zc18 := g_tne (n := 3) (by decide) c18
            refine v_tableOut (pc := 36) C 20 98 rfl (by omega) (by decide) ?_
            refine v_iconst (pc := 98) C 41 0 rfl (by decide) ?_
            refine v_istore_n (pc := 99) (lv' := [(3, .int 0), (0, .ref x0), (1, .int x1), (2, .int x2)]) C 42 rfl rfl (by decide) rfl ?_
            refine v_iconst (pc := 100) C 43 0 rfl (by decide) ?_
            refine v_istore (pc := 101) (lv' := [(4, .int 0), (3, .int 0), (0, .ref x0), (1, .int x1), (2, .int x2)]) C 44 rfl (by decide) rfl ?_
            refine v_sub [(0, .ref x0), (1, .int x1), (3, .int 0), (4, .int 0)] [2, 3, 1, 0] rfl ?_
            exact tl_X8_declaration_103 (F := F) C hr _ _ _ _ _ _ h
  · replace h := g_ifF c5 h
    refine v_iconst (pc := 33) C 17 0 rfl (by decide) ?_
    obtain ⟨rfl, rfl⟩ := g_so h
    exact v_iret (pc := 34) C 18 rfl hr
def b_X8_declaration_26 (sh : List gS) (F : Nat) (x0 : Nat) (x1 : Int32) (x2 : Int32) (y0 : Nat) (m : gM) : Option (Int32 × gM) :=
  b_X8_declaration_27 sh F x0 x1 x2 0 y0 m
set_option maxRecDepth 100000 in
set_option maxHeartbeats 4000000 in
theorem tb_X8_declaration_26 {X : gX} {w : gW} {rr : Int32} {rm : gM} (C : gC X w K_X8_declaration 5 RX8 2) (hr : X.2.2.2.2.2.2.2.2.1.sig.returnType = (some .int)) {F : Nat} {x0 : Nat} {x1 : Int32} {x2 : Int32} {y0 : Nat} {m : gM} (h : b_X8_declaration_26 w.2.2.2.2.1 F x0 x1 x2 y0 m = some (rr, rm)) : gV X w 0 0 (gR X w (some (.int rr)) rm) 5 26 [(0, .ref x0), (1, .int x1), (2, .int x2)] [.ref y0] m := by
  unfold b_X8_declaration_26 at h
  refine v_iconst (pc := 26) C 14 0 rfl (by decide) ?_
  refine v_sub [(0, .ref x0), (1, .int x1), (2, .int x2)] [0, 1, 2] rfl ?_
  exact tb_X8_declaration_27 (F := F) C hr h
def f_X8_declaration (sh : List gS) (F : Nat) (x0 : Nat) (x1 : Int32) (x2 : Int32) (m : gM) : Option (Int32 × gM) :=
  if x1 < 0 then (b_X8_declaration_26 sh F x0 x1 x2 x0 m) else (g_if (oB sh x0 8) (if (m.1 x0 15) ≤ x1 then (b_X8_declaration_26 sh F x0 x1 x2 x0 m) else (if x2 < 0 then (b_X8_declaration_26 sh F x0 x1 x2 x0 m) else (if (5 : Int32) ≤ x2 then (b_X8_declaration_26 sh F x0 x1 x2 x0 m) else (b_X8_declaration_27 sh F x0 x1 x2 1 x0 m)))))
set_option maxRecDepth 100000 in
set_option maxHeartbeats 4000000 in
theorem tf_X8_declaration {X : gX} {w : gW} {rr : Int32} {rm : gM} (C : gC X w K_X8_declaration 5 RX8 2) (hr : X.2.2.2.2.2.2.2.2.1.sig.returnType = (some .int)) {F : Nat} {x0 : Nat} {x1 : Int32} {x2 : Int32} {m : gM} (h : f_X8_declaration w.2.2.2.2.1 F x0 x1 x2 m = some (rr, rm)) : gV X w 0 0 (gR X w (some (.int rr)) rm) 5 0 [(0, .ref x0), (1, .int x1), (2, .int x2)] [] m := by
  unfold f_X8_declaration at h
  refine v_aload_n (pc := 0) C 0 0 rfl rfl rfl ?_
  refine v_iload_n (pc := 1) C 1 1 rfl rfl rfl ?_
  refine v_if_lt (pc := 2) C 2 26 rfl (by decide) (fun c1 => ?_) (fun c1 => ?_)
  · replace h := g_ifT c1 h
    refine v_sub [(0, .ref x0), (1, .int x1), (2, .int x2)] [0, 1, 2] rfl ?_
    exact tb_X8_declaration_26 (F := F) C hr h
  · replace h := g_ifF c1 h
    refine v_iload_n (pc := 5) C 3 1 rfl rfl rfl ?_
    refine v_aload_n (pc := 6) C 4 0 rfl rfl rfl ?_
    obtain ⟨o2, h⟩ := g_okk h
    refine v_getI (pc := 7) C 5 rfl lf_ScopeGraphModel_211.get (g_oB o2) rfl ?_
    refine v_icmp_ge (pc := 10) C 6 26 rfl (by decide) (fun c3 => ?_) (fun c3 => ?_)
    · replace h := g_ifT c3 h
      refine v_sub [(0, .ref x0), (1, .int x1), (2, .int x2)] [0, 1, 2] rfl ?_
      exact tb_X8_declaration_26 (F := F) C hr h
    · replace h := g_ifF c3 h
      refine v_iload_n (pc := 13) C 7 2 rfl rfl rfl ?_
      refine v_if_lt (pc := 14) C 8 26 rfl (by decide) (fun c4 => ?_) (fun c4 => ?_)
      · replace h := g_ifT c4 h
        refine v_sub [(0, .ref x0), (1, .int x1), (2, .int x2)] [0, 1, 2] rfl ?_
        exact tb_X8_declaration_26 (F := F) C hr h
      · replace h := g_ifF c4 h
        refine v_iload_n (pc := 17) C 9 2 rfl rfl rfl ?_
        refine v_iconst (pc := 18) C 10 5 rfl (by decide) ?_
        refine v_icmp_ge (pc := 19) C 11 26 rfl (by decide) (fun c5 => ?_) (fun c5 => ?_)
        · replace h := g_ifT c5 h
          refine v_sub [(0, .ref x0), (1, .int x1), (2, .int x2)] [0, 1, 2] rfl ?_
          exact tb_X8_declaration_26 (F := F) C hr h
        · replace h := g_ifF c5 h
          refine v_iconst (pc := 22) C 12 1 rfl (by decide) ?_
          refine v_goto (pc := 23) C 13 27 rfl (by decide) ?_
          refine v_sub [(0, .ref x0), (1, .int x1), (2, .int x2)] [0, 1, 2] rfl ?_
          exact tb_X8_declaration_27 (F := F) C hr h
theorem c_X8_declaration {l : Launch} {w : gW} {rr : Int32} {rm : gM} (hJ : gJok w) {F : Nat} {x0 : Nat} {x1 : Int32} {x2 : Int32} {m : gM} (h : f_X8_declaration w.2.2.2.2.1 F x0 x1 x2 m = some (rr, rm)) : gMet l 2 yX8_declaration cX8_declaration 5 (some .int) w [.ref x0, .int x1, .int x2] m (some (.int rr)) rm :=
  gMet.of hJ mf_X8_declaration dk_X8_declaration (Nat.le_of_ble_eq_true rfl) (fun X _ C hr => tf_X8_declaration (F := F) C hr h)
def b_X8_reference_28 (sh : List gS) (F : Nat) (x0 : Nat) (x1 : Int32) (x2 : Int32) (y0 : Int32) (y1 : Nat) (m : gM) : Option (Int32 × gM) :=
  g_if (oB sh y1 8) ((f_X8_fails sh F y1 y0 m).bind (fun q4 => nm q4.1 (fun r3 => nm q4.2 (fun m2 => if r3 = 0 then (if x2 = 0 then (g_if (oB sh x0 8) ((m2.2.2 x0 16).bind (fun t8 => g_if (aB sh t8 .int x1) (some (m2.1 t8 (x1).toNatClampNeg, m2))))) else (if x2 = 1 then (g_if (oB sh x0 8) ((m2.2.2 x0 17).bind (fun t12 => g_if (aB sh t12 .int x1) (some (m2.1 t12 (x1).toNatClampNeg, m2))))) else (if x2 = 2 then (g_if (oB sh x0 8) ((m2.2.2 x0 19).bind (fun t16 => g_if (aB sh t16 .int x1) (some (m2.1 t16 (x1).toNatClampNeg, m2))))) else (if x2 = 3 then (g_if (oB sh x0 8) ((m2.2.2 x0 68).bind (fun t20 => g_if (aB sh t20 .long x1) ((f_X8_many sh F (m2.2.1 t20 (x1).toNatClampNeg) m2).bind (fun q24 => nm q24.1 (fun r23 => nm q24.2 (fun m22 => some (r23, m22)))))))) else (if x2 = 4 then (g_if (oB sh x0 8) ((m2.2.2 x0 68).bind (fun t27 => g_if (aB sh t27 .long x1) (if (m2.2.1 t27 (x1).toNatClampNeg) = (0 : Int64) then (some ((-1), m2)) else ((m2.2.2 x0 69).bind (fun t30 => g_if (aB sh t30 .int x1) (some (m2.1 t30 (x1).toNatClampNeg, m2)))))))) else (g_if (oB sh x0 8) ((m2.2.2 x0 68).bind (fun t33 => g_if (aB sh t33 .long x1) (if (m2.2.1 t33 (x1).toNatClampNeg) = (0 : Int64) then (some ((-1), m2)) else ((m2.2.2 x0 70).bind (fun t36 => g_if (aB sh t36 .boolean x1) (if (m2.1 t36 (x1).toNatClampNeg) = 0 then (some (0, m2)) else (some (1, m2)))))))))))))) else (some (0, m2))))))
set_option maxRecDepth 100000 in
set_option maxHeartbeats 4000000 in
theorem tb_X8_reference_28 {X : gX} {w : gW} {rr : Int32} {rm : gM} (C : gC X w K_X8_reference 3 RX8 2) (hr : X.2.2.2.2.2.2.2.2.1.sig.returnType = (some .int)) {F : Nat} {x0 : Nat} {x1 : Int32} {x2 : Int32} {y0 : Int32} {y1 : Nat} {m : gM} (h : b_X8_reference_28 w.2.2.2.2.1 F x0 x1 x2 y0 y1 m = some (rr, rm)) : gV X w 0 0 (gR X w (some (.int rr)) rm) 3 28 [(0, .ref x0), (1, .int x1), (2, .int x2)] [.int y0, .ref y1] m := by
  unfold b_X8_reference_28 at h
  obtain ⟨o1, h⟩ := g_okk h
  obtain ⟨⟨r3, m2⟩, qm2, h⟩ := g_bd h
  replace h := g_nm (y := m2) (g_nm (y := r3) h rfl) rfl
  refine v_callV (pc := 28) C 15 rfl mf_X8_fails clX8 rfl im_X8_fails lm_ScopeGraphModel_160 (c_X8_fails C.2.2.2.2.2.2.2.2.2.2.2 qm2) (by decide) rfl (g_oB o1) (Nat.le_of_ble_eq_true rfl) ⟨Nat.zero_le _, Nat.zero_le _⟩ rfl ?_
  change gV X w 0 0 (gR X w (some (.int rr)) rm) 3 31 [(0, .ref x0), (1, .int x1), (2, .int x2)] [.int r3] m2
  refine v_if_eq (pc := 31) C 16 36 rfl (by decide) (fun c5 => ?_) (fun c5 => ?_)
  · replace h := g_ifT c5 h
    refine v_iload_n (pc := 36) C 19 2 rfl rfl rfl ?_
    by_cases c6 : x2 = 0
    · replace h := g_ifT c6 h
      refine v_tableIn (pc := 37) C 20 72 rfl (by rw [c6]; decide) (by rw [c6]; decide) (by rw [c6]; rfl) (by decide) ?_
      refine v_aload_n (pc := 72) C 21 0 rfl rfl rfl ?_
      obtain ⟨o7, h⟩ := g_okk h
      obtain ⟨t8, qt8, h⟩ := g_bd h
      refine v_getR (pc := 73) C 22 rfl lf_ScopeGraphModel_41 (g_oB o7) rfl qt8 ?_
      refine v_iload_n (pc := 76) C 23 1 rfl rfl rfl ?_
      obtain ⟨b9, h⟩ := g_okk h
      refine v_iald' (pc := 77) C 24 rfl b9 ?_
      obtain ⟨rfl, rfl⟩ := g_so h
      exact v_iret (pc := 78) C 25 rfl hr
    · replace h := g_ifF c6 h
      have zc6 := g_tne (n := 0) (by decide) c6
      by_cases c10 : x2 = 1
      · replace h := g_ifT c10 h
        refine v_tableIn (pc := 37) C 20 79 rfl (by rw [c10]; decide) (by rw [c10]; decide) (by rw [c10]; rfl) (by decide) ?_
        refine v_aload_n (pc := 79) C 26 0 rfl rfl rfl ?_
        obtain ⟨o11, h⟩ := g_okk h
        obtain ⟨t12, qt12, h⟩ := g_bd h
        refine v_getR (pc := 80) C 27 rfl lf_ScopeGraphModel_44 (g_oB o11) rfl qt12 ?_
        refine v_iload_n (pc := 83) C 28 1 rfl rfl rfl ?_
        obtain ⟨b13, h⟩ := g_okk h
        refine v_iald' (pc := 84) C 29 rfl b13 ?_
        obtain ⟨rfl, rfl⟩ := g_so h
        exact v_iret (pc := 85) C 30 rfl hr
      · replace h := g_ifF c10 h
        have zc10 := g_tne (n := 1) (by decide) c10
        by_cases c14 : x2 = 2
        · replace h := g_ifT c14 h
          refine v_tableIn (pc := 37) C 20 86 rfl (by rw [c14]; decide) (by rw [c14]; decide) (by rw [c14]; rfl) (by decide) ?_
          refine v_aload_n (pc := 86) C 31 0 rfl rfl rfl ?_
          obtain ⟨o15, h⟩ := g_okk h
          obtain ⟨t16, qt16, h⟩ := g_bd h
          refine v_getR (pc := 87) C 32 rfl lf_ScopeGraphModel_50 (g_oB o15) rfl qt16 ?_
          refine v_iload_n (pc := 90) C 33 1 rfl rfl rfl ?_
          obtain ⟨b17, h⟩ := g_okk h
          refine v_iald' (pc := 91) C 34 rfl b17 ?_
          obtain ⟨rfl, rfl⟩ := g_so h
          exact v_iret (pc := 92) C 35 rfl hr
        · replace h := g_ifF c14 h
          have zc14 := g_tne (n := 2) (by decide) c14
          by_cases c18 : x2 = 3
          · replace h := g_ifT c18 h
            refine v_tableIn (pc := 37) C 20 93 rfl (by rw [c18]; decide) (by rw [c18]; decide) (by rw [c18]; rfl) (by decide) ?_
            refine v_aload_n (pc := 93) C 36 0 rfl rfl rfl ?_
            obtain ⟨o19, h⟩ := g_okk h
            obtain ⟨t20, qt20, h⟩ := g_bd h
            refine v_getR (pc := 94) C 37 rfl lf_ScopeGraphModel_138 (g_oB o19) rfl qt20 ?_
            refine v_iload_n (pc := 97) C 38 1 rfl rfl rfl ?_
            obtain ⟨b21, h⟩ := g_okk h
            refine v_lald' (pc := 98) C 39 rfl b21 ?_
            obtain ⟨⟨r23, m22⟩, qm22, h⟩ := g_bd h
            replace h := g_nm (y := m22) (g_nm (y := r23) h rfl) rfl
            refine v_callS (pc := 99) C 40 rfl mf_X8_many sm_X8_many lm_ScopeGraphModel_368 (c_X8_many C.2.2.2.2.2.2.2.2.2.2.2 qm22) (by decide) rfl (Nat.le_of_ble_eq_true rfl) ⟨Nat.zero_le _, Nat.zero_le _⟩ rfl ?_
            change gV X w 0 0 (gR X w (some (.int rr)) rm) 3 102 [(0, .ref x0), (1, .int x1), (2, .int x2)] [.int r23] m22
            obtain ⟨rfl, rfl⟩ := g_so h
            exact v_iret (pc := 102) C 41 rfl hr
          · replace h := g_ifF c18 h
            have zc18 := g_tne (n := 3) (by decide) c18
            by_cases c25 : x2 = 4
            · replace h := g_ifT c25 h
              refine v_tableIn (pc := 37) C 20 103 rfl (by rw [c25]; decide) (by rw [c25]; decide) (by rw [c25]; rfl) (by decide) ?_
              refine v_aload_n (pc := 103) C 42 0 rfl rfl rfl ?_
              obtain ⟨o26, h⟩ := g_okk h
              obtain ⟨t27, qt27, h⟩ := g_bd h
              refine v_getR (pc := 104) C 43 rfl lf_ScopeGraphModel_138 (g_oB o26) rfl qt27 ?_
              refine v_iload_n (pc := 107) C 44 1 rfl rfl rfl ?_
              obtain ⟨b28, h⟩ := g_okk h
              refine v_lald' (pc := 108) C 45 rfl b28 ?_
              refine v_lconst (pc := 109) C 46 0 rfl (by decide) ?_
              refine v_lcmp (pc := 110) C 47 rfl ?_
              refine v_lif_ne (pc := 111) C 48 118 rfl (by decide) (fun c29 => ?_) (fun c29 => ?_)
              · replace h := g_ifF c29 h
                refine v_aload_n (pc := 118) C 51 0 rfl rfl rfl ?_
                obtain ⟨t30, qt30, h⟩ := g_bd h
                refine v_getR (pc := 119) C 52 rfl lf_ScopeGraphModel_141 (g_oB o26) rfl qt30 ?_
                refine v_iload_n (pc := 122) C 53 1 rfl rfl rfl ?_
                obtain ⟨b31, h⟩ := g_okk h
                refine v_iald' (pc := 123) C 54 rfl b31 ?_
                obtain ⟨rfl, rfl⟩ := g_so h
                exact v_iret (pc := 124) C 55 rfl hr
              · replace h := g_ifT c29 h
                refine v_iconst (pc := 114) C 49 (-1) rfl (by decide) ?_
                refine v_goto (pc := 115) C 50 124 rfl (by decide) ?_
                obtain ⟨rfl, rfl⟩ := g_so h
                exact v_iret (pc := 124) C 55 rfl hr
            · replace h := g_ifF c25 h
              have zc25 := g_tne (n := 4) (by decide) c25
              refine v_tableOut (pc := 37) C 20 125 rfl (by omega) (by decide) ?_
              refine v_aload_n (pc := 125) C 56 0 rfl rfl rfl ?_
              obtain ⟨o32, h⟩ := g_okk h
              obtain ⟨t33, qt33, h⟩ := g_bd h
              refine v_getR (pc := 126) C 57 rfl lf_ScopeGraphModel_138 (g_oB o32) rfl qt33 ?_
              refine v_iload_n (pc := 129) C 58 1 rfl rfl rfl ?_
              obtain ⟨b34, h⟩ := g_okk h
              refine v_lald' (pc := 130) C 59 rfl b34 ?_
              refine v_lconst (pc := 131) C 60 0 rfl (by decide) ?_
              refine v_lcmp (pc := 132) C 61 rfl ?_
              refine v_lif_ne (pc := 133) C 62 140 rfl (by decide) (fun c35 => ?_) (fun c35 => ?_)
              · replace h := g_ifF c35 h
                refine v_aload_n (pc := 140) C 65 0 rfl rfl rfl ?_
                obtain ⟨t36, qt36, h⟩ := g_bd h
                refine v_getR (pc := 141) C 66 rfl lf_ScopeGraphModel_144 (g_oB o32) rfl qt36 ?_
                refine v_iload_n (pc := 144) C 67 1 rfl rfl rfl ?_
                obtain ⟨b37, h⟩ := g_okk h
                refine v_zald' (pc := 145) C 68 rfl b37 ?_
                refine v_if_eq (pc := 146) C 69 153 rfl (by decide) (fun c38 => ?_) (fun c38 => ?_)
                · replace h := g_ifT c38 h
                  refine v_iconst (pc := 153) C 72 0 rfl (by decide) ?_
                  obtain ⟨rfl, rfl⟩ := g_so h
                  exact v_iret (pc := 154) C 73 rfl hr
                · replace h := g_ifF c38 h
                  refine v_iconst (pc := 149) C 70 1 rfl (by decide) ?_
                  refine v_goto (pc := 150) C 71 154 rfl (by decide) ?_
                  obtain ⟨rfl, rfl⟩ := g_so h
                  exact v_iret (pc := 154) C 73 rfl hr
              · replace h := g_ifT c35 h
                refine v_iconst (pc := 136) C 63 (-1) rfl (by decide) ?_
                refine v_goto (pc := 137) C 64 154 rfl (by decide) ?_
                obtain ⟨rfl, rfl⟩ := g_so h
                exact v_iret (pc := 154) C 73 rfl hr
  · replace h := g_ifF c5 h
    refine v_iconst (pc := 34) C 17 0 rfl (by decide) ?_
    obtain ⟨rfl, rfl⟩ := g_so h
    exact v_iret (pc := 35) C 18 rfl hr
def b_X8_reference_27 (sh : List gS) (F : Nat) (x0 : Nat) (x1 : Int32) (x2 : Int32) (y0 : Nat) (m : gM) : Option (Int32 × gM) :=
  b_X8_reference_28 sh F x0 x1 x2 0 y0 m
set_option maxRecDepth 100000 in
set_option maxHeartbeats 4000000 in
theorem tb_X8_reference_27 {X : gX} {w : gW} {rr : Int32} {rm : gM} (C : gC X w K_X8_reference 3 RX8 2) (hr : X.2.2.2.2.2.2.2.2.1.sig.returnType = (some .int)) {F : Nat} {x0 : Nat} {x1 : Int32} {x2 : Int32} {y0 : Nat} {m : gM} (h : b_X8_reference_27 w.2.2.2.2.1 F x0 x1 x2 y0 m = some (rr, rm)) : gV X w 0 0 (gR X w (some (.int rr)) rm) 3 27 [(0, .ref x0), (1, .int x1), (2, .int x2)] [.ref y0] m := by
  unfold b_X8_reference_27 at h
  refine v_iconst (pc := 27) C 14 0 rfl (by decide) ?_
  refine v_sub [(0, .ref x0), (1, .int x1), (2, .int x2)] [0, 1, 2] rfl ?_
  exact tb_X8_reference_28 (F := F) C hr h
def f_X8_reference (sh : List gS) (F : Nat) (x0 : Nat) (x1 : Int32) (x2 : Int32) (m : gM) : Option (Int32 × gM) :=
  if x1 < 0 then (b_X8_reference_27 sh F x0 x1 x2 x0 m) else (g_if (oB sh x0 8) (if (m.1 x0 20) ≤ x1 then (b_X8_reference_27 sh F x0 x1 x2 x0 m) else (if x2 < 0 then (b_X8_reference_27 sh F x0 x1 x2 x0 m) else (if (6 : Int32) ≤ x2 then (b_X8_reference_27 sh F x0 x1 x2 x0 m) else (b_X8_reference_28 sh F x0 x1 x2 1 x0 m)))))
set_option maxRecDepth 100000 in
set_option maxHeartbeats 4000000 in
theorem tf_X8_reference {X : gX} {w : gW} {rr : Int32} {rm : gM} (C : gC X w K_X8_reference 3 RX8 2) (hr : X.2.2.2.2.2.2.2.2.1.sig.returnType = (some .int)) {F : Nat} {x0 : Nat} {x1 : Int32} {x2 : Int32} {m : gM} (h : f_X8_reference w.2.2.2.2.1 F x0 x1 x2 m = some (rr, rm)) : gV X w 0 0 (gR X w (some (.int rr)) rm) 3 0 [(0, .ref x0), (1, .int x1), (2, .int x2)] [] m := by
  unfold f_X8_reference at h
  refine v_aload_n (pc := 0) C 0 0 rfl rfl rfl ?_
  refine v_iload_n (pc := 1) C 1 1 rfl rfl rfl ?_
  refine v_if_lt (pc := 2) C 2 27 rfl (by decide) (fun c1 => ?_) (fun c1 => ?_)
  · replace h := g_ifT c1 h
    refine v_sub [(0, .ref x0), (1, .int x1), (2, .int x2)] [0, 1, 2] rfl ?_
    exact tb_X8_reference_27 (F := F) C hr h
  · replace h := g_ifF c1 h
    refine v_iload_n (pc := 5) C 3 1 rfl rfl rfl ?_
    refine v_aload_n (pc := 6) C 4 0 rfl rfl rfl ?_
    obtain ⟨o2, h⟩ := g_okk h
    refine v_getI (pc := 7) C 5 rfl lf_ScopeGraphModel_223.get (g_oB o2) rfl ?_
    refine v_icmp_ge (pc := 10) C 6 27 rfl (by decide) (fun c3 => ?_) (fun c3 => ?_)
    · replace h := g_ifT c3 h
      refine v_sub [(0, .ref x0), (1, .int x1), (2, .int x2)] [0, 1, 2] rfl ?_
      exact tb_X8_reference_27 (F := F) C hr h
    · replace h := g_ifF c3 h
      refine v_iload_n (pc := 13) C 7 2 rfl rfl rfl ?_
      refine v_if_lt (pc := 14) C 8 27 rfl (by decide) (fun c4 => ?_) (fun c4 => ?_)
      · replace h := g_ifT c4 h
        refine v_sub [(0, .ref x0), (1, .int x1), (2, .int x2)] [0, 1, 2] rfl ?_
        exact tb_X8_reference_27 (F := F) C hr h
      · replace h := g_ifF c4 h
        refine v_iload_n (pc := 17) C 9 2 rfl rfl rfl ?_
        refine v_bipush (pc := 18) C 10 6 rfl (by decide) ?_
        refine v_icmp_ge (pc := 20) C 11 27 rfl (by decide) (fun c5 => ?_) (fun c5 => ?_)
        · replace h := g_ifT c5 h
          refine v_sub [(0, .ref x0), (1, .int x1), (2, .int x2)] [0, 1, 2] rfl ?_
          exact tb_X8_reference_27 (F := F) C hr h
        · replace h := g_ifF c5 h
          refine v_iconst (pc := 23) C 12 1 rfl (by decide) ?_
          refine v_goto (pc := 24) C 13 28 rfl (by decide) ?_
          refine v_sub [(0, .ref x0), (1, .int x1), (2, .int x2)] [0, 1, 2] rfl ?_
          exact tb_X8_reference_28 (F := F) C hr h
theorem c_X8_reference {l : Launch} {w : gW} {rr : Int32} {rm : gM} (hJ : gJok w) {F : Nat} {x0 : Nat} {x1 : Int32} {x2 : Int32} {m : gM} (h : f_X8_reference w.2.2.2.2.1 F x0 x1 x2 m = some (rr, rm)) : gMet l 2 yX8_reference cX8_reference 3 (some .int) w [.ref x0, .int x1, .int x2] m (some (.int rr)) rm :=
  gMet.of hJ mf_X8_reference dk_X8_reference (Nat.le_of_ble_eq_true rfl) (fun X _ C hr => tf_X8_reference (F := F) C hr h)
def b_X8_meant_95 (sh : List gS) (F : Nat) (k65 : Nat → Int32 → Int32 → Int32 → Int32 → gM → Option (Int32 × gM)) (x0 : Nat) (x1 : Int32) (x2 : Int32) (x5 : Int32) (y0 : Int32) (y1 : Int32) (m : gM) : Option (Int32 × gM) :=
  nm (y1 + y0) (fun v1 => k65 x0 x1 x2 v1 x5 m)
set_option maxRecDepth 100000 in
set_option maxHeartbeats 4000000 in
theorem tb_X8_meant_95 {X : gX} {w : gW} {rr : Int32} {rm : gM} (C : gC X w K_X8_meant 6 RX8 2) (hr : X.2.2.2.2.2.2.2.2.1.sig.returnType = (some .int)) {F : Nat} {k65 : Nat → Int32 → Int32 → Int32 → Int32 → gM → Option (Int32 × gM)} (hk65 : ∀ (z0 : Nat) (z1 : Int32) (z2 : Int32) (z4 : Int32) (z5 : Int32) (m : gM), k65 z0 z1 z2 z4 z5 m = some (rr, rm) → gV X w 0 0 (gR X w (some (.int rr)) rm) 6 65 [(0, .ref z0), (1, .int z1), (2, .int z2), (4, .int z4), (5, .int z5)] [] m) {x0 : Nat} {x1 : Int32} {x2 : Int32} {x5 : Int32} {y0 : Int32} {y1 : Int32} {m : gM} (h : b_X8_meant_95 w.2.2.2.2.1 F k65 x0 x1 x2 x5 y0 y1 m = some (rr, rm)) : gV X w 0 0 (gR X w (some (.int rr)) rm) 6 95 [(0, .ref x0), (1, .int x1), (2, .int x2), (5, .int x5)] [.int y0, .int y1] m := by
  unfold b_X8_meant_95 at h
  refine v_iadd (pc := 95) C 51 rfl ?_
  refine v_topI (fun v1 ev1 => ?_)
  replace h := g_nm h ev1
  refine v_istore (pc := 96) (lv' := [(4, .int v1), (0, .ref x0), (1, .int x1), (2, .int x2), (5, .int x5)]) C 52 rfl (by decide) rfl ?_
  refine v_goto (pc := 98) C 53 65 rfl (by decide) ?_
  refine v_sub [(0, .ref x0), (1, .int x1), (2, .int x2), (4, .int v1), (5, .int x5)] [1, 2, 3, 0, 4] rfl ?_
  exact hk65 _ _ _ _ _ _ h
def b_X8_meant_65 (sh : List gS) (F : Nat) (k65 : Nat → Int32 → Int32 → Int32 → Int32 → gM → Option (Int32 × gM)) (x0 : Nat) (x1 : Int32) (x2 : Int32) (x4 : Int32) (x5 : Int32) (m : gM) : Option (Int32 × gM) :=
  if x2 ≤ x4 then (some (x5, m)) else (nm (x5 + Int32.ofInt 1) (fun v2 => g_if (oB sh x0 8) ((m.2.2 x0 68).bind (fun t4 => g_if (aB sh t4 .long x1) ((f_X8_has sh F (m.2.1 t4 (x1).toNatClampNeg) v2 m).bind (fun q8 => nm q8.1 (fun r7 => nm q8.2 (fun m6 => if r7 = 0 then (b_X8_meant_95 sh F k65 x0 x1 x2 v2 0 x4 m6) else (b_X8_meant_95 sh F k65 x0 x1 x2 v2 1 x4 m6)))))))))
set_option maxRecDepth 100000 in
set_option maxHeartbeats 4000000 in
theorem tb_X8_meant_65 {X : gX} {w : gW} {rr : Int32} {rm : gM} (C : gC X w K_X8_meant 6 RX8 2) (hr : X.2.2.2.2.2.2.2.2.1.sig.returnType = (some .int)) {F : Nat} {k65 : Nat → Int32 → Int32 → Int32 → Int32 → gM → Option (Int32 × gM)} (hk65 : ∀ (z0 : Nat) (z1 : Int32) (z2 : Int32) (z4 : Int32) (z5 : Int32) (m : gM), k65 z0 z1 z2 z4 z5 m = some (rr, rm) → gV X w 0 0 (gR X w (some (.int rr)) rm) 6 65 [(0, .ref z0), (1, .int z1), (2, .int z2), (4, .int z4), (5, .int z5)] [] m) {x0 : Nat} {x1 : Int32} {x2 : Int32} {x4 : Int32} {x5 : Int32} {m : gM} (h : b_X8_meant_65 w.2.2.2.2.1 F k65 x0 x1 x2 x4 x5 m = some (rr, rm)) : gV X w 0 0 (gR X w (some (.int rr)) rm) 6 65 [(0, .ref x0), (1, .int x1), (2, .int x2), (4, .int x4), (5, .int x5)] [] m := by
  unfold b_X8_meant_65 at h
  refine v_iload (pc := 65) C 36 3 rfl rfl ?_
  refine v_iload_n (pc := 67) C 37 2 rfl rfl rfl ?_
  refine v_icmp_ge (pc := 68) C 38 101 rfl (by decide) (fun c1 => ?_) (fun c1 => ?_)
  · replace h := g_ifT c1 h
    refine v_iload (pc := 101) C 54 4 rfl rfl ?_
    obtain ⟨rfl, rfl⟩ := g_so h
    exact v_iret (pc := 103) C 55 rfl hr
  · replace h := g_ifF c1 h
    refine v_iincN (pc := 71) C 39 4 (fun v2 => [(5, .int v2), (0, .ref x0), (1, .int x1), (2, .int x2), (4, .int x4)]) rfl rfl (by decide) (fun _ => rfl) (fun v2 ev2 => ?_)
    replace h := g_nm h ev2
    refine v_iload (pc := 74) C 40 4 rfl rfl ?_
    refine v_aload_n (pc := 76) C 41 1 rfl rfl rfl ?_
    obtain ⟨o3, h⟩ := g_okk h
    obtain ⟨t4, qt4, h⟩ := g_bd h
    refine v_getR (pc := 77) C 42 rfl lf_ScopeGraphModel_138 (g_oB o3) rfl qt4 ?_
    refine v_iload_n (pc := 80) C 43 2 rfl rfl rfl ?_
    obtain ⟨b5, h⟩ := g_okk h
    refine v_lald' (pc := 81) C 44 rfl b5 ?_
    refine v_iload (pc := 82) C 45 0 rfl rfl ?_
    obtain ⟨⟨r7, m6⟩, qm6, h⟩ := g_bd h
    replace h := g_nm (y := m6) (g_nm (y := r7) h rfl) rfl
    refine v_callS (pc := 84) C 46 rfl mf_X8_has sm_X8_has lm_ScopeGraphModel_351 (c_X8_has C.2.2.2.2.2.2.2.2.2.2.2 qm6) (by decide) rfl (Nat.le_of_ble_eq_true rfl) ⟨Nat.zero_le _, Nat.zero_le _⟩ rfl ?_
    change gV X w 0 0 (gR X w (some (.int rr)) rm) 6 87 [(5, .int v2), (0, .ref x0), (1, .int x1), (2, .int x2), (4, .int x4)] [.int r7, .int x4] m6
    refine v_if_eq (pc := 87) C 47 94 rfl (by decide) (fun c9 => ?_) (fun c9 => ?_)
    · replace h := g_ifT c9 h
      refine v_iconst (pc := 94) C 50 0 rfl (by decide) ?_
      refine v_sub [(0, .ref x0), (1, .int x1), (2, .int x2), (5, .int v2)] [1, 2, 3, 0] rfl ?_
      exact tb_X8_meant_95 (F := F) C hr hk65 h
    · replace h := g_ifF c9 h
      refine v_iconst (pc := 90) C 48 1 rfl (by decide) ?_
      refine v_goto (pc := 91) C 49 95 rfl (by decide) ?_
      refine v_sub [(0, .ref x0), (1, .int x1), (2, .int x2), (5, .int v2)] [1, 2, 3, 0] rfl ?_
      exact tb_X8_meant_95 (F := F) C hr hk65 h
def l_X8_meant_65 (sh : List gS) (F : Nat) : Nat → Nat → Int32 → Int32 → Int32 → Int32 → gM → Option (Int32 × gM)
  | 0 => fun _ _ _ _ _ _ => none
  | n + 1 => fun x0 x1 x2 x4 x5 m => b_X8_meant_65 sh F (l_X8_meant_65 sh F n) x0 x1 x2 x4 x5 m
theorem tl_X8_meant_65 {X : gX} {w : gW} {rr : Int32} {rm : gM} (C : gC X w K_X8_meant 6 RX8 2) (hr : X.2.2.2.2.2.2.2.2.1.sig.returnType = (some .int)) {F : Nat} : ∀ (n : Nat) (x0 : Nat) (x1 : Int32) (x2 : Int32) (x4 : Int32) (x5 : Int32) (m : gM), l_X8_meant_65 w.2.2.2.2.1 F n x0 x1 x2 x4 x5 m = some (rr, rm) → gV X w 0 0 (gR X w (some (.int rr)) rm) 6 65 [(0, .ref x0), (1, .int x1), (2, .int x2), (4, .int x4), (5, .int x5)] [] m := by
  intro n
  induction n with
  | zero => intro x0 x1 x2 x4 x5 m h; cases h
  | succ n ih => intro x0 x1 x2 x4 x5 m h; exact tb_X8_meant_65 (F := F) C hr ih h
def b_X8_meant_48 (sh : List gS) (F : Nat) (x0 : Nat) (x1 : Int32) (x2 : Int32) (y0 : Int32) (m : gM) : Option (Int32 × gM) :=
  g_if (oB sh x0 8) ((f_X8_fails sh F x0 y0 m).bind (fun q4 => nm q4.1 (fun r3 => nm q4.2 (fun m2 => if r3 = 0 then (l_X8_meant_65 sh F F x0 x1 x2 (-1) (-1) m2) else (some (0, m2))))))
set_option maxRecDepth 100000 in
set_option maxHeartbeats 4000000 in
theorem tb_X8_meant_48 {X : gX} {w : gW} {rr : Int32} {rm : gM} (C : gC X w K_X8_meant 6 RX8 2) (hr : X.2.2.2.2.2.2.2.2.1.sig.returnType = (some .int)) {F : Nat} {x0 : Nat} {x1 : Int32} {x2 : Int32} {y0 : Int32} {m : gM} (h : b_X8_meant_48 w.2.2.2.2.1 F x0 x1 x2 y0 m = some (rr, rm)) : gV X w 0 0 (gR X w (some (.int rr)) rm) 6 48 [(0, .ref x0), (1, .int x1), (2, .int x2)] [.int y0] m := by
  unfold b_X8_meant_48 at h
  refine v_istore_n (pc := 48) (lv' := [(3, .int y0), (0, .ref x0), (1, .int x1), (2, .int x2)]) C 25 rfl rfl (by decide) rfl ?_
  refine v_aload_n (pc := 49) C 26 1 rfl rfl rfl ?_
  refine v_iload_n (pc := 50) C 27 0 rfl rfl rfl ?_
  obtain ⟨o1, h⟩ := g_okk h
  obtain ⟨⟨r3, m2⟩, qm2, h⟩ := g_bd h
  replace h := g_nm (y := m2) (g_nm (y := r3) h rfl) rfl
  refine v_callV (pc := 51) C 28 rfl mf_X8_fails clX8 rfl im_X8_fails lm_ScopeGraphModel_160 (c_X8_fails C.2.2.2.2.2.2.2.2.2.2.2 qm2) (by decide) rfl (g_oB o1) (Nat.le_of_ble_eq_true rfl) ⟨Nat.zero_le _, Nat.zero_le _⟩ rfl ?_
  change gV X w 0 0 (gR X w (some (.int rr)) rm) 6 54 [(3, .int y0), (0, .ref x0), (1, .int x1), (2, .int x2)] [.int r3] m2
  refine v_if_eq (pc := 54) C 29 59 rfl (by decide) (fun c5 => ?_) (fun c5 => ?_)
  · replace h := g_ifT c5 h
    refine v_iconst (pc := 59) C 32 (-1) rfl (by decide) ?_
    refine v_istore (pc := 60) (lv' := [(4, .int (-1)), (3, .int y0), (0, .ref x0), (1, .int x1), (2, .int x2)]) C 33 rfl (by decide) rfl ?_
    refine v_iconst (pc := 62) C 34 (-1) rfl (by decide) ?_
    refine v_istore (pc := 63) (lv' := [(5, .int (-1)), (4, .int (-1)), (3, .int y0), (0, .ref x0), (1, .int x1), (2, .int x2)]) C 35 rfl (by decide) rfl ?_
    refine v_sub [(0, .ref x0), (1, .int x1), (2, .int x2), (4, .int (-1)), (5, .int (-1))] [3, 4, 5, 1, 0] rfl ?_
    exact tl_X8_meant_65 (F := F) C hr _ _ _ _ _ _ _ h
  · replace h := g_ifF c5 h
    refine v_iconst (pc := 57) C 30 0 rfl (by decide) ?_
    obtain ⟨rfl, rfl⟩ := g_so h
    exact v_iret (pc := 58) C 31 rfl hr
def b_X8_meant_47 (sh : List gS) (F : Nat) (x0 : Nat) (x1 : Int32) (x2 : Int32) (m : gM) : Option (Int32 × gM) :=
  b_X8_meant_48 sh F x0 x1 x2 0 m
set_option maxRecDepth 100000 in
set_option maxHeartbeats 4000000 in
theorem tb_X8_meant_47 {X : gX} {w : gW} {rr : Int32} {rm : gM} (C : gC X w K_X8_meant 6 RX8 2) (hr : X.2.2.2.2.2.2.2.2.1.sig.returnType = (some .int)) {F : Nat} {x0 : Nat} {x1 : Int32} {x2 : Int32} {m : gM} (h : b_X8_meant_47 w.2.2.2.2.1 F x0 x1 x2 m = some (rr, rm)) : gV X w 0 0 (gR X w (some (.int rr)) rm) 6 47 [(0, .ref x0), (1, .int x1), (2, .int x2)] [] m := by
  unfold b_X8_meant_47 at h
  refine v_iconst (pc := 47) C 24 0 rfl (by decide) ?_
  refine v_sub [(0, .ref x0), (1, .int x1), (2, .int x2)] [0, 1, 2] rfl ?_
  exact tb_X8_meant_48 (F := F) C hr h
def b_X8_meant_36 (sh : List gS) (F : Nat) (x0 : Nat) (x1 : Int32) (x2 : Int32) (y0 : Int32) (y1 : Nat) (y2 : Int32) (m : gM) : Option (Int32 × gM) :=
  g_if (aB sh y1 .long y0) ((f_X8_many sh F (m.2.1 y1 (y0).toNatClampNeg) m).bind (fun q4 => nm q4.1 (fun r3 => nm q4.2 (fun m2 => if r3 ≤ y2 then (b_X8_meant_47 sh F x0 x1 x2 m2) else (b_X8_meant_48 sh F x0 x1 x2 1 m2)))))
set_option maxRecDepth 100000 in
set_option maxHeartbeats 4000000 in
theorem tb_X8_meant_36 {X : gX} {w : gW} {rr : Int32} {rm : gM} (C : gC X w K_X8_meant 6 RX8 2) (hr : X.2.2.2.2.2.2.2.2.1.sig.returnType = (some .int)) {F : Nat} {x0 : Nat} {x1 : Int32} {x2 : Int32} {y0 : Int32} {y1 : Nat} {y2 : Int32} {m : gM} (h : b_X8_meant_36 w.2.2.2.2.1 F x0 x1 x2 y0 y1 y2 m = some (rr, rm)) : gV X w 0 0 (gR X w (some (.int rr)) rm) 6 36 [(0, .ref x0), (1, .int x1), (2, .int x2)] [.int y0, .ref y1, .int y2] m := by
  unfold b_X8_meant_36 at h
  obtain ⟨b1, h⟩ := g_okk h
  refine v_lald' (pc := 36) C 19 rfl b1 ?_
  obtain ⟨⟨r3, m2⟩, qm2, h⟩ := g_bd h
  replace h := g_nm (y := m2) (g_nm (y := r3) h rfl) rfl
  refine v_callS (pc := 37) C 20 rfl mf_X8_many sm_X8_many lm_ScopeGraphModel_368 (c_X8_many C.2.2.2.2.2.2.2.2.2.2.2 qm2) (by decide) rfl (Nat.le_of_ble_eq_true rfl) ⟨Nat.zero_le _, Nat.zero_le _⟩ rfl ?_
  change gV X w 0 0 (gR X w (some (.int rr)) rm) 6 40 [(0, .ref x0), (1, .int x1), (2, .int x2)] [.int r3, .int y2] m2
  refine v_icmp_ge (pc := 40) C 21 47 rfl (by decide) (fun c5 => ?_) (fun c5 => ?_)
  · replace h := g_ifT c5 h
    refine v_sub [(0, .ref x0), (1, .int x1), (2, .int x2)] [0, 1, 2] rfl ?_
    exact tb_X8_meant_47 (F := F) C hr h
  · replace h := g_ifF c5 h
    refine v_iconst (pc := 43) C 22 1 rfl (by decide) ?_
    refine v_goto (pc := 44) C 23 48 rfl (by decide) ?_
    refine v_sub [(0, .ref x0), (1, .int x1), (2, .int x2)] [0, 1, 2] rfl ?_
    exact tb_X8_meant_48 (F := F) C hr h
def b_X8_meant_31 (sh : List gS) (F : Nat) (x0 : Nat) (x1 : Int32) (x2 : Int32) (y0 : Nat) (y1 : Int32) (m : gM) : Option (Int32 × gM) :=
  b_X8_meant_36 sh F x0 x1 x2 0 y0 y1 m
set_option maxRecDepth 100000 in
set_option maxHeartbeats 4000000 in
theorem tb_X8_meant_31 {X : gX} {w : gW} {rr : Int32} {rm : gM} (C : gC X w K_X8_meant 6 RX8 2) (hr : X.2.2.2.2.2.2.2.2.1.sig.returnType = (some .int)) {F : Nat} {x0 : Nat} {x1 : Int32} {x2 : Int32} {y0 : Nat} {y1 : Int32} {m : gM} (h : b_X8_meant_31 w.2.2.2.2.1 F x0 x1 x2 y0 y1 m = some (rr, rm)) : gV X w 0 0 (gR X w (some (.int rr)) rm) 6 31 [(0, .ref x0), (1, .int x1), (2, .int x2)] [.ref y0, .int y1] m := by
  unfold b_X8_meant_31 at h
  refine v_iconst (pc := 31) C 16 0 rfl (by decide) ?_
  refine v_goto (pc := 32) C 17 36 rfl (by decide) ?_
  refine v_sub [(0, .ref x0), (1, .int x1), (2, .int x2)] [0, 1, 2] rfl ?_
  exact tb_X8_meant_36 (F := F) C hr h
def f_X8_meant (sh : List gS) (F : Nat) (x0 : Nat) (x1 : Int32) (x2 : Int32) (m : gM) : Option (Int32 × gM) :=
  if x1 < 0 then (b_X8_meant_47 sh F x0 x1 x2 m) else (g_if (oB sh x0 8) (if (m.1 x0 20) ≤ x1 then (b_X8_meant_47 sh F x0 x1 x2 m) else (if x2 < 0 then (b_X8_meant_47 sh F x0 x1 x2 m) else ((m.2.2 x0 68).bind (fun t5 => if x1 < 0 then (b_X8_meant_31 sh F x0 x1 x2 t5 x2 m) else (if x1 ≤ (100 : Int32) then (b_X8_meant_36 sh F x0 x1 x2 x1 t5 x2 m) else (b_X8_meant_31 sh F x0 x1 x2 t5 x2 m)))))))
set_option maxRecDepth 100000 in
set_option maxHeartbeats 4000000 in
theorem tf_X8_meant {X : gX} {w : gW} {rr : Int32} {rm : gM} (C : gC X w K_X8_meant 6 RX8 2) (hr : X.2.2.2.2.2.2.2.2.1.sig.returnType = (some .int)) {F : Nat} {x0 : Nat} {x1 : Int32} {x2 : Int32} {m : gM} (h : f_X8_meant w.2.2.2.2.1 F x0 x1 x2 m = some (rr, rm)) : gV X w 0 0 (gR X w (some (.int rr)) rm) 6 0 [(0, .ref x0), (1, .int x1), (2, .int x2)] [] m := by
  unfold f_X8_meant at h
  refine v_iload_n (pc := 0) C 0 1 rfl rfl rfl ?_
  refine v_if_lt (pc := 1) C 1 47 rfl (by decide) (fun c1 => ?_) (fun c1 => ?_)
  · replace h := g_ifT c1 h
    refine v_sub [(0, .ref x0), (1, .int x1), (2, .int x2)] [0, 1, 2] rfl ?_
    exact tb_X8_meant_47 (F := F) C hr h
  · replace h := g_ifF c1 h
    refine v_iload_n (pc := 4) C 2 1 rfl rfl rfl ?_
    refine v_aload_n (pc := 5) C 3 0 rfl rfl rfl ?_
    obtain ⟨o2, h⟩ := g_okk h
    refine v_getI (pc := 6) C 4 rfl lf_ScopeGraphModel_223.get (g_oB o2) rfl ?_
    refine v_icmp_ge (pc := 9) C 5 47 rfl (by decide) (fun c3 => ?_) (fun c3 => ?_)
    · replace h := g_ifT c3 h
      refine v_sub [(0, .ref x0), (1, .int x1), (2, .int x2)] [0, 1, 2] rfl ?_
      exact tb_X8_meant_47 (F := F) C hr h
    · replace h := g_ifF c3 h
      refine v_iload_n (pc := 12) C 6 2 rfl rfl rfl ?_
      refine v_if_lt (pc := 13) C 7 47 rfl (by decide) (fun c4 => ?_) (fun c4 => ?_)
      · replace h := g_ifT c4 h
        refine v_sub [(0, .ref x0), (1, .int x1), (2, .int x2)] [0, 1, 2] rfl ?_
        exact tb_X8_meant_47 (F := F) C hr h
      · replace h := g_ifF c4 h
        refine v_iload_n (pc := 16) C 8 2 rfl rfl rfl ?_
        refine v_aload_n (pc := 17) C 9 0 rfl rfl rfl ?_
        obtain ⟨t5, qt5, h⟩ := g_bd h
        refine v_getR (pc := 18) C 10 rfl lf_ScopeGraphModel_138 (g_oB o2) rfl qt5 ?_
        refine v_iload_n (pc := 21) C 11 1 rfl rfl rfl ?_
        refine v_if_lt (pc := 22) C 12 31 rfl (by decide) (fun c6 => ?_) (fun c6 => ?_)
        · replace h := g_ifT c6 h
          refine v_sub [(0, .ref x0), (1, .int x1), (2, .int x2)] [0, 1, 2] rfl ?_
          exact tb_X8_meant_31 (F := F) C hr h
        · replace h := g_ifF c6 h
          refine v_iload_n (pc := 25) C 13 1 rfl rfl rfl ?_
          refine v_bipush (pc := 26) C 14 100 rfl (by decide) ?_
          refine v_icmp_le (pc := 28) C 15 35 rfl (by decide) (fun c7 => ?_) (fun c7 => ?_)
          · replace h := g_ifT c7 h
            refine v_iload_n (pc := 35) C 18 1 rfl rfl rfl ?_
            refine v_sub [(0, .ref x0), (1, .int x1), (2, .int x2)] [0, 1, 2] rfl ?_
            exact tb_X8_meant_36 (F := F) C hr h
          · replace h := g_ifF c7 h
            refine v_sub [(0, .ref x0), (1, .int x1), (2, .int x2)] [0, 1, 2] rfl ?_
            exact tb_X8_meant_31 (F := F) C hr h
theorem c_X8_meant {l : Launch} {w : gW} {rr : Int32} {rm : gM} (hJ : gJok w) {F : Nat} {x0 : Nat} {x1 : Int32} {x2 : Int32} {m : gM} (h : f_X8_meant w.2.2.2.2.1 F x0 x1 x2 m = some (rr, rm)) : gMet l 2 yX8_meant cX8_meant 6 (some .int) w [.ref x0, .int x1, .int x2] m (some (.int rr)) rm :=
  gMet.of hJ mf_X8_meant dk_X8_meant (Nat.le_of_ble_eq_true rfl) (fun X _ C hr => tf_X8_meant (F := F) C hr h)
def b_X8_friends_30 (sh : List gS) (F : Nat) (x0 : Nat) (x1 : Int32) (x2 : Int32) (y0 : Int32) (y1 : Nat) (m : gM) : Option (Int32 × gM) :=
  g_if (oB sh y1 8) ((f_X8_fails sh F y1 y0 m).bind (fun q4 => nm q4.1 (fun r3 => nm q4.2 (fun m2 => if r3 = 0 then (g_if (oB sh x0 8) ((f_X8_friendsOf sh F x0 x1 m2).bind (fun q9 => nm q9.1 (fun r8 => nm q9.2 (fun m7 => (f_X8_has sh F r8 x2 m7).bind (fun q12 => nm q12.1 (fun r11 => nm q12.2 (fun m10 => g_if (zB r11) (some (r11, m10)))))))))) else (some (0, m2))))))
set_option maxRecDepth 100000 in
set_option maxHeartbeats 4000000 in
theorem tb_X8_friends_30 {X : gX} {w : gW} {rr : Int32} {rm : gM} (C : gC X w K_X8_friends 3 RX8 1) (hr : X.2.2.2.2.2.2.2.2.1.sig.returnType = (some .boolean)) {F : Nat} {x0 : Nat} {x1 : Int32} {x2 : Int32} {y0 : Int32} {y1 : Nat} {m : gM} (h : b_X8_friends_30 w.2.2.2.2.1 F x0 x1 x2 y0 y1 m = some (rr, rm)) : gV X w 0 0 (gR X w (some (.int rr)) rm) 3 30 [(0, .ref x0), (1, .int x1), (2, .int x2)] [.int y0, .ref y1] m := by
  unfold b_X8_friends_30 at h
  obtain ⟨o1, h⟩ := g_okk h
  obtain ⟨⟨r3, m2⟩, qm2, h⟩ := g_bd h
  replace h := g_nm (y := m2) (g_nm (y := r3) h rfl) rfl
  refine v_callV (pc := 30) C 16 rfl mf_X8_fails clX8 rfl im_X8_fails lm_ScopeGraphModel_160 (c_X8_fails C.2.2.2.2.2.2.2.2.2.2.2 qm2) (by decide) rfl (g_oB o1) (Nat.le_of_ble_eq_true rfl) ⟨Nat.zero_le _, Nat.zero_le _⟩ rfl ?_
  change gV X w 0 0 (gR X w (some (.int rr)) rm) 3 33 [(0, .ref x0), (1, .int x1), (2, .int x2)] [.int r3] m2
  refine v_if_eq (pc := 33) C 17 38 rfl (by decide) (fun c5 => ?_) (fun c5 => ?_)
  · replace h := g_ifT c5 h
    refine v_aload_n (pc := 38) C 20 0 rfl rfl rfl ?_
    refine v_iload_n (pc := 39) C 21 1 rfl rfl rfl ?_
    obtain ⟨o6, h⟩ := g_okk h
    obtain ⟨⟨r8, m7⟩, qm7, h⟩ := g_bd h
    replace h := g_nm (y := m7) (g_nm (y := r8) h rfl) rfl
    refine v_callV (pc := 40) C 22 rfl mf_X8_friendsOf clX8 rfl im_X8_friendsOf lm_ScopeGraphModel_372 (c_X8_friendsOf C.2.2.2.2.2.2.2.2.2.2.2 qm7) (by decide) rfl (g_oB o6) (Nat.le_of_ble_eq_true rfl) ⟨Nat.zero_le _, Nat.zero_le _⟩ rfl ?_
    change gV X w 0 0 (gR X w (some (.int rr)) rm) 3 43 [(0, .ref x0), (1, .int x1), (2, .int x2)] [.long r8] m7
    refine v_iload_n (pc := 43) C 23 2 rfl rfl rfl ?_
    obtain ⟨⟨r11, m10⟩, qm10, h⟩ := g_bd h
    replace h := g_nm (y := m10) (g_nm (y := r11) h rfl) rfl
    refine v_callS (pc := 44) C 24 rfl mf_X8_has sm_X8_has lm_ScopeGraphModel_351 (c_X8_has C.2.2.2.2.2.2.2.2.2.2.2 qm10) (by decide) rfl (Nat.le_of_ble_eq_true rfl) ⟨Nat.zero_le _, Nat.zero_le _⟩ rfl ?_
    change gV X w 0 0 (gR X w (some (.int rr)) rm) 3 47 [(0, .ref x0), (1, .int x1), (2, .int x2)] [.int r11] m10
    obtain ⟨o13, h⟩ := g_okk h
    obtain ⟨rfl, rfl⟩ := g_so h
    exact v_zret (pc := 47) C 25 rfl hr (g_zB o13)
  · replace h := g_ifF c5 h
    refine v_iconst (pc := 36) C 18 0 rfl (by decide) ?_
    obtain ⟨rfl, rfl⟩ := g_so h
    exact v_zret (pc := 37) C 19 rfl hr (by decide)
def b_X8_friends_29 (sh : List gS) (F : Nat) (x0 : Nat) (x1 : Int32) (x2 : Int32) (y0 : Nat) (m : gM) : Option (Int32 × gM) :=
  b_X8_friends_30 sh F x0 x1 x2 0 y0 m
set_option maxRecDepth 100000 in
set_option maxHeartbeats 4000000 in
theorem tb_X8_friends_29 {X : gX} {w : gW} {rr : Int32} {rm : gM} (C : gC X w K_X8_friends 3 RX8 1) (hr : X.2.2.2.2.2.2.2.2.1.sig.returnType = (some .boolean)) {F : Nat} {x0 : Nat} {x1 : Int32} {x2 : Int32} {y0 : Nat} {m : gM} (h : b_X8_friends_29 w.2.2.2.2.1 F x0 x1 x2 y0 m = some (rr, rm)) : gV X w 0 0 (gR X w (some (.int rr)) rm) 3 29 [(0, .ref x0), (1, .int x1), (2, .int x2)] [.ref y0] m := by
  unfold b_X8_friends_29 at h
  refine v_iconst (pc := 29) C 15 0 rfl (by decide) ?_
  refine v_sub [(0, .ref x0), (1, .int x1), (2, .int x2)] [0, 1, 2] rfl ?_
  exact tb_X8_friends_30 (F := F) C hr h
def f_X8_friends (sh : List gS) (F : Nat) (x0 : Nat) (x1 : Int32) (x2 : Int32) (m : gM) : Option (Int32 × gM) :=
  if x1 < 0 then (b_X8_friends_29 sh F x0 x1 x2 x0 m) else (g_if (oB sh x0 8) (if (m.1 x0 15) ≤ x1 then (b_X8_friends_29 sh F x0 x1 x2 x0 m) else (if x2 < 0 then (b_X8_friends_29 sh F x0 x1 x2 x0 m) else (if (m.1 x0 15) ≤ x2 then (b_X8_friends_29 sh F x0 x1 x2 x0 m) else (b_X8_friends_30 sh F x0 x1 x2 1 x0 m)))))
set_option maxRecDepth 100000 in
set_option maxHeartbeats 4000000 in
theorem tf_X8_friends {X : gX} {w : gW} {rr : Int32} {rm : gM} (C : gC X w K_X8_friends 3 RX8 1) (hr : X.2.2.2.2.2.2.2.2.1.sig.returnType = (some .boolean)) {F : Nat} {x0 : Nat} {x1 : Int32} {x2 : Int32} {m : gM} (h : f_X8_friends w.2.2.2.2.1 F x0 x1 x2 m = some (rr, rm)) : gV X w 0 0 (gR X w (some (.int rr)) rm) 3 0 [(0, .ref x0), (1, .int x1), (2, .int x2)] [] m := by
  unfold f_X8_friends at h
  refine v_aload_n (pc := 0) C 0 0 rfl rfl rfl ?_
  refine v_iload_n (pc := 1) C 1 1 rfl rfl rfl ?_
  refine v_if_lt (pc := 2) C 2 29 rfl (by decide) (fun c1 => ?_) (fun c1 => ?_)
  · replace h := g_ifT c1 h
    refine v_sub [(0, .ref x0), (1, .int x1), (2, .int x2)] [0, 1, 2] rfl ?_
    exact tb_X8_friends_29 (F := F) C hr h
  · replace h := g_ifF c1 h
    refine v_iload_n (pc := 5) C 3 1 rfl rfl rfl ?_
    refine v_aload_n (pc := 6) C 4 0 rfl rfl rfl ?_
    obtain ⟨o2, h⟩ := g_okk h
    refine v_getI (pc := 7) C 5 rfl lf_ScopeGraphModel_211.get (g_oB o2) rfl ?_
    refine v_icmp_ge (pc := 10) C 6 29 rfl (by decide) (fun c3 => ?_) (fun c3 => ?_)
    · replace h := g_ifT c3 h
      refine v_sub [(0, .ref x0), (1, .int x1), (2, .int x2)] [0, 1, 2] rfl ?_
      exact tb_X8_friends_29 (F := F) C hr h
    · replace h := g_ifF c3 h
      refine v_iload_n (pc := 13) C 7 2 rfl rfl rfl ?_
      refine v_if_lt (pc := 14) C 8 29 rfl (by decide) (fun c4 => ?_) (fun c4 => ?_)
      · replace h := g_ifT c4 h
        refine v_sub [(0, .ref x0), (1, .int x1), (2, .int x2)] [0, 1, 2] rfl ?_
        exact tb_X8_friends_29 (F := F) C hr h
      · replace h := g_ifF c4 h
        refine v_iload_n (pc := 17) C 9 2 rfl rfl rfl ?_
        refine v_aload_n (pc := 18) C 10 0 rfl rfl rfl ?_
        refine v_getI (pc := 19) C 11 rfl lf_ScopeGraphModel_211.get (g_oB o2) rfl ?_
        refine v_icmp_ge (pc := 22) C 12 29 rfl (by decide) (fun c5 => ?_) (fun c5 => ?_)
        · replace h := g_ifT c5 h
          refine v_sub [(0, .ref x0), (1, .int x1), (2, .int x2)] [0, 1, 2] rfl ?_
          exact tb_X8_friends_29 (F := F) C hr h
        · replace h := g_ifF c5 h
          refine v_iconst (pc := 25) C 13 1 rfl (by decide) ?_
          refine v_goto (pc := 26) C 14 30 rfl (by decide) ?_
          refine v_sub [(0, .ref x0), (1, .int x1), (2, .int x2)] [0, 1, 2] rfl ?_
          exact tb_X8_friends_30 (F := F) C hr h
theorem c_X8_friends {l : Launch} {w : gW} {rr : Int32} {rm : gM} (hJ : gJok w) {F : Nat} {x0 : Nat} {x1 : Int32} {x2 : Int32} {m : gM} (h : f_X8_friends w.2.2.2.2.1 F x0 x1 x2 m = some (rr, rm)) : gMet l 1 yX8_friends cX8_friends 3 (some .boolean) w [.ref x0, .int x1, .int x2] m (some (.int rr)) rm :=
  gMet.of hJ mf_X8_friends dk_X8_friends (Nat.le_of_ble_eq_true rfl) (fun X _ C hr => tf_X8_friends (F := F) C hr h)
def b_X8_isName_84 (sh : List gS) (F : Nat) (x0 : Nat) (x1 : Int32) (m : gM) : Option (Int32 × gM) :=
  if x1 = 0 then (some (0, m)) else (g_if (oB sh x0 8) ((m.2.2 x0 1).bind (fun t3 => (f_X8_wordOf sh F x0 t3 0 (m.1 x0 2) m).bind (fun q6 => nm q6.1 (fun r5 => nm q6.2 (fun m4 => if r5 = (1 : Int32) then (some (1, m4)) else (some (0, m4))))))))
set_option maxRecDepth 100000 in
set_option maxHeartbeats 4000000 in
theorem tb_X8_isName_84 {X : gX} {w : gW} {rr : Int32} {rm : gM} (C : gC X w K_X8_isName 3 RX8 1) (hr : X.2.2.2.2.2.2.2.2.1.sig.returnType = (some .boolean)) {F : Nat} {x0 : Nat} {x1 : Int32} {m : gM} (h : b_X8_isName_84 w.2.2.2.2.1 F x0 x1 m = some (rr, rm)) : gV X w 0 0 (gR X w (some (.int rr)) rm) 3 84 [(0, .ref x0), (1, .int x1)] [] m := by
  unfold b_X8_isName_84 at h
  refine v_iload_n (pc := 84) C 43 1 rfl rfl rfl ?_
  refine v_if_eq (pc := 85) C 44 109 rfl (by decide) (fun c1 => ?_) (fun c1 => ?_)
  · replace h := g_ifT c1 h
    refine v_iconst (pc := 109) C 56 0 rfl (by decide) ?_
    obtain ⟨rfl, rfl⟩ := g_so h
    exact v_zret (pc := 110) C 57 rfl hr (by decide)
  · replace h := g_ifF c1 h
    refine v_aload_n (pc := 88) C 45 0 rfl rfl rfl ?_
    refine v_aload_n (pc := 89) C 46 0 rfl rfl rfl ?_
    obtain ⟨o2, h⟩ := g_okk h
    obtain ⟨t3, qt3, h⟩ := g_bd h
    refine v_getR (pc := 90) C 47 rfl lf_ScopeGraphModel_7 (g_oB o2) rfl qt3 ?_
    refine v_iconst (pc := 93) C 48 0 rfl (by decide) ?_
    refine v_aload_n (pc := 94) C 49 0 rfl rfl rfl ?_
    refine v_getI (pc := 95) C 50 rfl lf_ScopeGraphModel_157.get (g_oB o2) rfl ?_
    obtain ⟨⟨r5, m4⟩, qm4, h⟩ := g_bd h
    replace h := g_nm (y := m4) (g_nm (y := r5) h rfl) rfl
    refine v_callV (pc := 98) C 51 rfl mf_X8_wordOf clX8 rfl im_X8_wordOf lm_ScopeGraphModel_200 (c_X8_wordOf C.2.2.2.2.2.2.2.2.2.2.2 qm4) (by decide) rfl (g_oB o2) (Nat.le_of_ble_eq_true rfl) ⟨Nat.zero_le _, Nat.zero_le _⟩ rfl ?_
    change gV X w 0 0 (gR X w (some (.int rr)) rm) 3 101 [(0, .ref x0), (1, .int x1)] [.int r5] m4
    refine v_iconst (pc := 101) C 52 1 rfl (by decide) ?_
    refine v_icmp_ne (pc := 102) C 53 109 rfl (by decide) (fun c7 => ?_) (fun c7 => ?_)
    · replace h := g_ifF c7 h
      refine v_iconst (pc := 109) C 56 0 rfl (by decide) ?_
      obtain ⟨rfl, rfl⟩ := g_so h
      exact v_zret (pc := 110) C 57 rfl hr (by decide)
    · replace h := g_ifT c7 h
      refine v_iconst (pc := 105) C 54 1 rfl (by decide) ?_
      refine v_goto (pc := 106) C 55 110 rfl (by decide) ?_
      obtain ⟨rfl, rfl⟩ := g_so h
      exact v_zret (pc := 110) C 57 rfl hr (by decide)
def b_X8_isName_77 (sh : List gS) (F : Nat) (k36 : Nat → Int32 → Int32 → gM → Option (Int32 × gM)) (x0 : Nat) (x2 : Int32) (y0 : Int32) (m : gM) : Option (Int32 × gM) :=
  nm (x2 + Int32.ofInt 1) (fun v1 => k36 x0 y0 v1 m)
set_option maxRecDepth 100000 in
set_option maxHeartbeats 4000000 in
theorem tb_X8_isName_77 {X : gX} {w : gW} {rr : Int32} {rm : gM} (C : gC X w K_X8_isName 3 RX8 1) (hr : X.2.2.2.2.2.2.2.2.1.sig.returnType = (some .boolean)) {F : Nat} {k36 : Nat → Int32 → Int32 → gM → Option (Int32 × gM)} (hk36 : ∀ (z0 : Nat) (z1 : Int32) (z2 : Int32) (m : gM), k36 z0 z1 z2 m = some (rr, rm) → gV X w 0 0 (gR X w (some (.int rr)) rm) 3 36 [(0, .ref z0), (1, .int z1), (2, .int z2)] [] m) {x0 : Nat} {x2 : Int32} {y0 : Int32} {m : gM} (h : b_X8_isName_77 w.2.2.2.2.1 F k36 x0 x2 y0 m = some (rr, rm)) : gV X w 0 0 (gR X w (some (.int rr)) rm) 3 77 [(0, .ref x0), (2, .int x2)] [.int y0] m := by
  unfold b_X8_isName_77 at h
  refine v_istore_n (pc := 77) (lv' := [(1, .int y0), (0, .ref x0), (2, .int x2)]) C 40 rfl rfl (by decide) rfl ?_
  refine v_iincN (pc := 78) C 41 2 (fun v1 => [(2, .int v1), (1, .int y0), (0, .ref x0)]) rfl rfl (by decide) (fun _ => rfl) (fun v1 ev1 => ?_)
  replace h := g_nm h ev1
  refine v_goto (pc := 81) C 42 36 rfl (by decide) ?_
  refine v_sub [(0, .ref x0), (1, .int y0), (2, .int v1)] [2, 1, 0] rfl ?_
  exact hk36 _ _ _ _ h
def b_X8_isName_72 (sh : List gS) (F : Nat) (k36 : Nat → Int32 → Int32 → gM → Option (Int32 × gM)) (x0 : Nat) (x2 : Int32) (m : gM) : Option (Int32 × gM) :=
  b_X8_isName_77 sh F k36 x0 x2 1 m
set_option maxRecDepth 100000 in
set_option maxHeartbeats 4000000 in
theorem tb_X8_isName_72 {X : gX} {w : gW} {rr : Int32} {rm : gM} (C : gC X w K_X8_isName 3 RX8 1) (hr : X.2.2.2.2.2.2.2.2.1.sig.returnType = (some .boolean)) {F : Nat} {k36 : Nat → Int32 → Int32 → gM → Option (Int32 × gM)} (hk36 : ∀ (z0 : Nat) (z1 : Int32) (z2 : Int32) (m : gM), k36 z0 z1 z2 m = some (rr, rm) → gV X w 0 0 (gR X w (some (.int rr)) rm) 3 36 [(0, .ref z0), (1, .int z1), (2, .int z2)] [] m) {x0 : Nat} {x2 : Int32} {m : gM} (h : b_X8_isName_72 w.2.2.2.2.1 F k36 x0 x2 m = some (rr, rm)) : gV X w 0 0 (gR X w (some (.int rr)) rm) 3 72 [(0, .ref x0), (2, .int x2)] [] m := by
  unfold b_X8_isName_72 at h
  refine v_iconst (pc := 72) C 37 1 rfl (by decide) ?_
  refine v_goto (pc := 73) C 38 77 rfl (by decide) ?_
  refine v_sub [(0, .ref x0), (2, .int x2)] [0, 1] rfl ?_
  exact tb_X8_isName_77 (F := F) C hr hk36 h
def b_X8_isName_36 (sh : List gS) (F : Nat) (k36 : Nat → Int32 → Int32 → gM → Option (Int32 × gM)) (x0 : Nat) (x1 : Int32) (x2 : Int32) (m : gM) : Option (Int32 × gM) :=
  g_if (oB sh x0 8) (if (m.1 x0 2) ≤ x2 then (b_X8_isName_84 sh F x0 x1 m) else (if x1 = 0 then (b_X8_isName_84 sh F x0 x1 m) else ((m.2.2 x0 1).bind (fun t4 => g_if (aB sh t4 .int x2) ((f_X8_isLetter sh F (m.1 t4 (x2).toNatClampNeg) m).bind (fun q8 => nm q8.1 (fun r7 => nm q8.2 (fun m6 => if r7 = 0 then ((m6.2.2 x0 1).bind (fun t10 => g_if (aB sh t10 .int x2) ((f_X8_isDigit sh F (m6.1 t10 (x2).toNatClampNeg) m6).bind (fun q14 => nm q14.1 (fun r13 => nm q14.2 (fun m12 => if r13 = 0 then (b_X8_isName_77 sh F k36 x0 x2 0 m12) else (b_X8_isName_72 sh F k36 x0 x2 m12))))))) else (b_X8_isName_72 sh F k36 x0 x2 m6)))))))))
set_option maxRecDepth 100000 in
set_option maxHeartbeats 4000000 in
theorem tb_X8_isName_36 {X : gX} {w : gW} {rr : Int32} {rm : gM} (C : gC X w K_X8_isName 3 RX8 1) (hr : X.2.2.2.2.2.2.2.2.1.sig.returnType = (some .boolean)) {F : Nat} {k36 : Nat → Int32 → Int32 → gM → Option (Int32 × gM)} (hk36 : ∀ (z0 : Nat) (z1 : Int32) (z2 : Int32) (m : gM), k36 z0 z1 z2 m = some (rr, rm) → gV X w 0 0 (gR X w (some (.int rr)) rm) 3 36 [(0, .ref z0), (1, .int z1), (2, .int z2)] [] m) {x0 : Nat} {x1 : Int32} {x2 : Int32} {m : gM} (h : b_X8_isName_36 w.2.2.2.2.1 F k36 x0 x1 x2 m = some (rr, rm)) : gV X w 0 0 (gR X w (some (.int rr)) rm) 3 36 [(0, .ref x0), (1, .int x1), (2, .int x2)] [] m := by
  unfold b_X8_isName_36 at h
  refine v_iload_n (pc := 36) C 19 2 rfl rfl rfl ?_
  refine v_aload_n (pc := 37) C 20 0 rfl rfl rfl ?_
  obtain ⟨o1, h⟩ := g_okk h
  refine v_getI (pc := 38) C 21 rfl lf_ScopeGraphModel_157.get (g_oB o1) rfl ?_
  refine v_icmp_ge (pc := 41) C 22 84 rfl (by decide) (fun c2 => ?_) (fun c2 => ?_)
  · replace h := g_ifT c2 h
    refine v_sub [(0, .ref x0), (1, .int x1)] [0, 1] rfl ?_
    exact tb_X8_isName_84 (F := F) C hr h
  · replace h := g_ifF c2 h
    refine v_iload_n (pc := 44) C 23 1 rfl rfl rfl ?_
    refine v_if_eq (pc := 45) C 24 84 rfl (by decide) (fun c3 => ?_) (fun c3 => ?_)
    · replace h := g_ifT c3 h
      refine v_sub [(0, .ref x0), (1, .int x1)] [0, 1] rfl ?_
      exact tb_X8_isName_84 (F := F) C hr h
    · replace h := g_ifF c3 h
      refine v_aload_n (pc := 48) C 25 0 rfl rfl rfl ?_
      obtain ⟨t4, qt4, h⟩ := g_bd h
      refine v_getR (pc := 49) C 26 rfl lf_ScopeGraphModel_7 (g_oB o1) rfl qt4 ?_
      refine v_iload_n (pc := 52) C 27 2 rfl rfl rfl ?_
      obtain ⟨b5, h⟩ := g_okk h
      refine v_iald' (pc := 53) C 28 rfl b5 ?_
      obtain ⟨⟨r7, m6⟩, qm6, h⟩ := g_bd h
      replace h := g_nm (y := m6) (g_nm (y := r7) h rfl) rfl
      refine v_callS (pc := 54) C 29 rfl mf_X8_isLetter sm_X8_isLetter lm_ScopeGraphModel_190 (c_X8_isLetter C.2.2.2.2.2.2.2.2.2.2.2 qm6) (by decide) rfl (Nat.le_of_ble_eq_true rfl) ⟨Nat.zero_le _, Nat.zero_le _⟩ rfl ?_
      change gV X w 0 0 (gR X w (some (.int rr)) rm) 3 57 [(0, .ref x0), (1, .int x1), (2, .int x2)] [.int r7] m6
      refine v_if_ne (pc := 57) C 30 72 rfl (by decide) (fun c9 => ?_) (fun c9 => ?_)
      · replace h := g_ifF c9 h
        refine v_sub [(0, .ref x0), (2, .int x2)] [0, 2] rfl ?_
        exact tb_X8_isName_72 (F := F) C hr hk36 h
      · replace h := g_ifT c9 h
        refine v_aload_n (pc := 60) C 31 0 rfl rfl rfl ?_
        obtain ⟨t10, qt10, h⟩ := g_bd h
        refine v_getR (pc := 61) C 32 rfl lf_ScopeGraphModel_7 (g_oB o1) rfl qt10 ?_
        refine v_iload_n (pc := 64) C 33 2 rfl rfl rfl ?_
        obtain ⟨b11, h⟩ := g_okk h
        refine v_iald' (pc := 65) C 34 rfl b11 ?_
        obtain ⟨⟨r13, m12⟩, qm12, h⟩ := g_bd h
        replace h := g_nm (y := m12) (g_nm (y := r13) h rfl) rfl
        refine v_callS (pc := 66) C 35 rfl mf_X8_isDigit sm_X8_isDigit lm_ScopeGraphModel_194 (c_X8_isDigit C.2.2.2.2.2.2.2.2.2.2.2 qm12) (by decide) rfl (Nat.le_of_ble_eq_true rfl) ⟨Nat.zero_le _, Nat.zero_le _⟩ rfl ?_
        change gV X w 0 0 (gR X w (some (.int rr)) rm) 3 69 [(0, .ref x0), (1, .int x1), (2, .int x2)] [.int r13] m12
        refine v_if_eq (pc := 69) C 36 76 rfl (by decide) (fun c15 => ?_) (fun c15 => ?_)
        · replace h := g_ifT c15 h
          refine v_iconst (pc := 76) C 39 0 rfl (by decide) ?_
          refine v_sub [(0, .ref x0), (2, .int x2)] [0, 2] rfl ?_
          exact tb_X8_isName_77 (F := F) C hr hk36 h
        · replace h := g_ifF c15 h
          refine v_sub [(0, .ref x0), (2, .int x2)] [0, 2] rfl ?_
          exact tb_X8_isName_72 (F := F) C hr hk36 h
def l_X8_isName_36 (sh : List gS) (F : Nat) : Nat → Nat → Int32 → Int32 → gM → Option (Int32 × gM)
  | 0 => fun _ _ _ _ => none
  | n + 1 => fun x0 x1 x2 m => b_X8_isName_36 sh F (l_X8_isName_36 sh F n) x0 x1 x2 m
theorem tl_X8_isName_36 {X : gX} {w : gW} {rr : Int32} {rm : gM} (C : gC X w K_X8_isName 3 RX8 1) (hr : X.2.2.2.2.2.2.2.2.1.sig.returnType = (some .boolean)) {F : Nat} : ∀ (n : Nat) (x0 : Nat) (x1 : Int32) (x2 : Int32) (m : gM), l_X8_isName_36 w.2.2.2.2.1 F n x0 x1 x2 m = some (rr, rm) → gV X w 0 0 (gR X w (some (.int rr)) rm) 3 36 [(0, .ref x0), (1, .int x1), (2, .int x2)] [] m := by
  intro n
  induction n with
  | zero => intro x0 x1 x2 m h; cases h
  | succ n ih => intro x0 x1 x2 m h; exact tb_X8_isName_36 (F := F) C hr ih h
def b_X8_isName_33 (sh : List gS) (F : Nat) (x0 : Nat) (y0 : Int32) (m : gM) : Option (Int32 × gM) :=
  l_X8_isName_36 sh F F x0 y0 0 m
set_option maxRecDepth 100000 in
set_option maxHeartbeats 4000000 in
theorem tb_X8_isName_33 {X : gX} {w : gW} {rr : Int32} {rm : gM} (C : gC X w K_X8_isName 3 RX8 1) (hr : X.2.2.2.2.2.2.2.2.1.sig.returnType = (some .boolean)) {F : Nat} {x0 : Nat} {y0 : Int32} {m : gM} (h : b_X8_isName_33 w.2.2.2.2.1 F x0 y0 m = some (rr, rm)) : gV X w 0 0 (gR X w (some (.int rr)) rm) 3 33 [(0, .ref x0)] [.int y0] m := by
  unfold b_X8_isName_33 at h
  refine v_istore_n (pc := 33) (lv' := [(1, .int y0), (0, .ref x0)]) C 16 rfl rfl (by decide) rfl ?_
  refine v_iconst (pc := 34) C 17 0 rfl (by decide) ?_
  refine v_istore_n (pc := 35) (lv' := [(2, .int 0), (1, .int y0), (0, .ref x0)]) C 18 rfl rfl (by decide) rfl ?_
  refine v_sub [(0, .ref x0), (1, .int y0), (2, .int 0)] [2, 1, 0] rfl ?_
  exact tl_X8_isName_36 (F := F) C hr _ _ _ _ _ h
def b_X8_isName_32 (sh : List gS) (F : Nat) (x0 : Nat) (m : gM) : Option (Int32 × gM) :=
  b_X8_isName_33 sh F x0 0 m
set_option maxRecDepth 100000 in
set_option maxHeartbeats 4000000 in
theorem tb_X8_isName_32 {X : gX} {w : gW} {rr : Int32} {rm : gM} (C : gC X w K_X8_isName 3 RX8 1) (hr : X.2.2.2.2.2.2.2.2.1.sig.returnType = (some .boolean)) {F : Nat} {x0 : Nat} {m : gM} (h : b_X8_isName_32 w.2.2.2.2.1 F x0 m = some (rr, rm)) : gV X w 0 0 (gR X w (some (.int rr)) rm) 3 32 [(0, .ref x0)] [] m := by
  unfold b_X8_isName_32 at h
  refine v_iconst (pc := 32) C 15 0 rfl (by decide) ?_
  refine v_sub [(0, .ref x0)] [0] rfl ?_
  exact tb_X8_isName_33 (F := F) C hr h
def f_X8_isName (sh : List gS) (F : Nat) (x0 : Nat) (m : gM) : Option (Int32 × gM) :=
  g_if (oB sh x0 8) (if (m.1 x0 2) ≤ 0 then (b_X8_isName_32 sh F x0 m) else (if (12 : Int32) < (m.1 x0 2) then (b_X8_isName_32 sh F x0 m) else ((m.2.2 x0 1).bind (fun t4 => g_if (aB sh t4 .int 0) ((f_X8_isLetter sh F (m.1 t4 (0 : Int32).toNatClampNeg) m).bind (fun q8 => nm q8.1 (fun r7 => nm q8.2 (fun m6 => if r7 = 0 then (b_X8_isName_32 sh F x0 m6) else (b_X8_isName_33 sh F x0 1 m6)))))))))
set_option maxRecDepth 100000 in
set_option maxHeartbeats 4000000 in
theorem tf_X8_isName {X : gX} {w : gW} {rr : Int32} {rm : gM} (C : gC X w K_X8_isName 3 RX8 1) (hr : X.2.2.2.2.2.2.2.2.1.sig.returnType = (some .boolean)) {F : Nat} {x0 : Nat} {m : gM} (h : f_X8_isName w.2.2.2.2.1 F x0 m = some (rr, rm)) : gV X w 0 0 (gR X w (some (.int rr)) rm) 3 0 [(0, .ref x0)] [] m := by
  unfold f_X8_isName at h
  refine v_aload_n (pc := 0) C 0 0 rfl rfl rfl ?_
  obtain ⟨o1, h⟩ := g_okk h
  refine v_getI (pc := 1) C 1 rfl lf_ScopeGraphModel_157.get (g_oB o1) rfl ?_
  refine v_if_le (pc := 4) C 2 32 rfl (by decide) (fun c2 => ?_) (fun c2 => ?_)
  · replace h := g_ifT c2 h
    refine v_sub [(0, .ref x0)] [0] rfl ?_
    exact tb_X8_isName_32 (F := F) C hr h
  · replace h := g_ifF c2 h
    refine v_aload_n (pc := 7) C 3 0 rfl rfl rfl ?_
    refine v_getI (pc := 8) C 4 rfl lf_ScopeGraphModel_157.get (g_oB o1) rfl ?_
    refine v_bipush (pc := 11) C 5 12 rfl (by decide) ?_
    refine v_icmp_gt (pc := 13) C 6 32 rfl (by decide) (fun c3 => ?_) (fun c3 => ?_)
    · replace h := g_ifT c3 h
      refine v_sub [(0, .ref x0)] [0] rfl ?_
      exact tb_X8_isName_32 (F := F) C hr h
    · replace h := g_ifF c3 h
      refine v_aload_n (pc := 16) C 7 0 rfl rfl rfl ?_
      obtain ⟨t4, qt4, h⟩ := g_bd h
      refine v_getR (pc := 17) C 8 rfl lf_ScopeGraphModel_7 (g_oB o1) rfl qt4 ?_
      refine v_iconst (pc := 20) C 9 0 rfl (by decide) ?_
      obtain ⟨b5, h⟩ := g_okk h
      refine v_iald' (pc := 21) C 10 rfl b5 ?_
      obtain ⟨⟨r7, m6⟩, qm6, h⟩ := g_bd h
      replace h := g_nm (y := m6) (g_nm (y := r7) h rfl) rfl
      refine v_callS (pc := 22) C 11 rfl mf_X8_isLetter sm_X8_isLetter lm_ScopeGraphModel_190 (c_X8_isLetter C.2.2.2.2.2.2.2.2.2.2.2 qm6) (by decide) rfl (Nat.le_of_ble_eq_true rfl) ⟨Nat.zero_le _, Nat.zero_le _⟩ rfl ?_
      change gV X w 0 0 (gR X w (some (.int rr)) rm) 3 25 [(0, .ref x0)] [.int r7] m6
      refine v_if_eq (pc := 25) C 12 32 rfl (by decide) (fun c9 => ?_) (fun c9 => ?_)
      · replace h := g_ifT c9 h
        refine v_sub [(0, .ref x0)] [0] rfl ?_
        exact tb_X8_isName_32 (F := F) C hr h
      · replace h := g_ifF c9 h
        refine v_iconst (pc := 28) C 13 1 rfl (by decide) ?_
        refine v_goto (pc := 29) C 14 33 rfl (by decide) ?_
        refine v_sub [(0, .ref x0)] [0] rfl ?_
        exact tb_X8_isName_33 (F := F) C hr h
theorem c_X8_isName {l : Launch} {w : gW} {rr : Int32} {rm : gM} (hJ : gJok w) {F : Nat} {x0 : Nat} {m : gM} (h : f_X8_isName w.2.2.2.2.1 F x0 m = some (rr, rm)) : gMet l 1 yX8_isName cX8_isName 3 (some .boolean) w [.ref x0] m (some (.int rr)) rm :=
  gMet.of hJ mf_X8_isName dk_X8_isName (Nat.le_of_ble_eq_true rfl) (fun X _ C hr => tf_X8_isName (F := F) C hr h)
def b_X8_isTape_51 (sh : List gS) (F : Nat) (k17 : Nat → Int32 → Int32 → Int32 → Int32 → gM → Option (Int32 × gM)) (x0 : Nat) (x1 : Int32) (x2 : Int32) (x4 : Int32) (y0 : Int32) (m : gM) : Option (Int32 × gM) :=
  nm (x4 + Int32.ofInt 1) (fun v1 => k17 x0 x1 x2 y0 v1 m)
set_option maxRecDepth 100000 in
set_option maxHeartbeats 4000000 in
theorem tb_X8_isTape_51 {X : gX} {w : gW} {rr : Int32} {rm : gM} (C : gC X w K_X8_isTape 5 RX8 0) (hr : X.2.2.2.2.2.2.2.2.1.sig.returnType = (some .boolean)) {F : Nat} {k17 : Nat → Int32 → Int32 → Int32 → Int32 → gM → Option (Int32 × gM)} (hk17 : ∀ (z0 : Nat) (z1 : Int32) (z2 : Int32) (z3 : Int32) (z4 : Int32) (m : gM), k17 z0 z1 z2 z3 z4 m = some (rr, rm) → gV X w 0 0 (gR X w (some (.int rr)) rm) 5 17 [(0, .ref z0), (1, .int z1), (2, .int z2), (3, .int z3), (4, .int z4)] [] m) {x0 : Nat} {x1 : Int32} {x2 : Int32} {x4 : Int32} {y0 : Int32} {m : gM} (h : b_X8_isTape_51 w.2.2.2.2.1 F k17 x0 x1 x2 x4 y0 m = some (rr, rm)) : gV X w 0 0 (gR X w (some (.int rr)) rm) 5 51 [(0, .ref x0), (1, .int x1), (2, .int x2), (4, .int x4)] [.int y0] m := by
  unfold b_X8_isTape_51 at h
  refine v_istore_n (pc := 51) (lv' := [(3, .int y0), (0, .ref x0), (1, .int x1), (2, .int x2), (4, .int x4)]) C 29 rfl rfl (by decide) rfl ?_
  refine v_iincN (pc := 52) C 30 4 (fun v1 => [(4, .int v1), (3, .int y0), (0, .ref x0), (1, .int x1), (2, .int x2)]) rfl rfl (by decide) (fun _ => rfl) (fun v1 ev1 => ?_)
  replace h := g_nm h ev1
  refine v_goto (pc := 55) C 31 17 rfl (by decide) ?_
  refine v_sub [(0, .ref x0), (1, .int x1), (2, .int x2), (3, .int y0), (4, .int v1)] [2, 3, 4, 1, 0] rfl ?_
  exact hk17 _ _ _ _ _ _ h
def b_X8_isTape_17 (sh : List gS) (F : Nat) (k17 : Nat → Int32 → Int32 → Int32 → Int32 → gM → Option (Int32 × gM)) (x0 : Nat) (x1 : Int32) (x2 : Int32) (x3 : Int32) (x4 : Int32) (m : gM) : Option (Int32 × gM) :=
  if x3 = 0 then (g_if (zB x3) (some (x3, m))) else (if x2 ≤ x4 then (g_if (zB x3) (some (x3, m))) else (g_if (oB sh x0 8) ((m.2.2 x0 3).bind (fun t6 => g_if (aB sh t6 .int (x1 + x4)) ((m.2.2 x0 1).bind (fun t8 => g_if (aB sh t8 .int x4) (if (m.1 t6 (x1 + x4).toNatClampNeg) = (m.1 t8 (x4).toNatClampNeg) then (b_X8_isTape_51 sh F k17 x0 x1 x2 x4 1 m) else (b_X8_isTape_51 sh F k17 x0 x1 x2 x4 0 m))))))))
set_option maxRecDepth 100000 in
set_option maxHeartbeats 4000000 in
theorem tb_X8_isTape_17 {X : gX} {w : gW} {rr : Int32} {rm : gM} (C : gC X w K_X8_isTape 5 RX8 0) (hr : X.2.2.2.2.2.2.2.2.1.sig.returnType = (some .boolean)) {F : Nat} {k17 : Nat → Int32 → Int32 → Int32 → Int32 → gM → Option (Int32 × gM)} (hk17 : ∀ (z0 : Nat) (z1 : Int32) (z2 : Int32) (z3 : Int32) (z4 : Int32) (m : gM), k17 z0 z1 z2 z3 z4 m = some (rr, rm) → gV X w 0 0 (gR X w (some (.int rr)) rm) 5 17 [(0, .ref z0), (1, .int z1), (2, .int z2), (3, .int z3), (4, .int z4)] [] m) {x0 : Nat} {x1 : Int32} {x2 : Int32} {x3 : Int32} {x4 : Int32} {m : gM} (h : b_X8_isTape_17 w.2.2.2.2.1 F k17 x0 x1 x2 x3 x4 m = some (rr, rm)) : gV X w 0 0 (gR X w (some (.int rr)) rm) 5 17 [(0, .ref x0), (1, .int x1), (2, .int x2), (3, .int x3), (4, .int x4)] [] m := by
  unfold b_X8_isTape_17 at h
  refine v_iload_n (pc := 17) C 10 3 rfl rfl rfl ?_
  refine v_if_eq (pc := 18) C 11 58 rfl (by decide) (fun c1 => ?_) (fun c1 => ?_)
  · replace h := g_ifT c1 h
    refine v_iload_n (pc := 58) C 32 3 rfl rfl rfl ?_
    obtain ⟨o2, h⟩ := g_okk h
    obtain ⟨rfl, rfl⟩ := g_so h
    exact v_zret (pc := 59) C 33 rfl hr (g_zB o2)
  · replace h := g_ifF c1 h
    refine v_iload (pc := 21) C 12 4 rfl rfl ?_
    refine v_iload_n (pc := 23) C 13 2 rfl rfl rfl ?_
    refine v_icmp_ge (pc := 24) C 14 58 rfl (by decide) (fun c3 => ?_) (fun c3 => ?_)
    · replace h := g_ifT c3 h
      refine v_iload_n (pc := 58) C 32 3 rfl rfl rfl ?_
      obtain ⟨o4, h⟩ := g_okk h
      obtain ⟨rfl, rfl⟩ := g_so h
      exact v_zret (pc := 59) C 33 rfl hr (g_zB o4)
    · replace h := g_ifF c3 h
      refine v_aload_n (pc := 27) C 15 0 rfl rfl rfl ?_
      obtain ⟨o5, h⟩ := g_okk h
      obtain ⟨t6, qt6, h⟩ := g_bd h
      refine v_getR (pc := 28) C 16 rfl lf_ScopeGraphModel_13 (g_oB o5) rfl qt6 ?_
      refine v_iload_n (pc := 31) C 17 1 rfl rfl rfl ?_
      refine v_iload (pc := 32) C 18 4 rfl rfl ?_
      refine v_iadd (pc := 34) C 19 rfl ?_
      obtain ⟨b7, h⟩ := g_okk h
      refine v_iald' (pc := 35) C 20 rfl b7 ?_
      refine v_aload_n (pc := 36) C 21 0 rfl rfl rfl ?_
      obtain ⟨t8, qt8, h⟩ := g_bd h
      refine v_getR (pc := 37) C 22 rfl lf_ScopeGraphModel_7 (g_oB o5) rfl qt8 ?_
      refine v_iload (pc := 40) C 23 4 rfl rfl ?_
      obtain ⟨b9, h⟩ := g_okk h
      refine v_iald' (pc := 42) C 24 rfl b9 ?_
      refine v_icmp_ne (pc := 43) C 25 50 rfl (by decide) (fun c10 => ?_) (fun c10 => ?_)
      · replace h := g_ifF c10 h
        refine v_iconst (pc := 50) C 28 0 rfl (by decide) ?_
        refine v_sub [(0, .ref x0), (1, .int x1), (2, .int x2), (4, .int x4)] [0, 1, 2, 4] rfl ?_
        exact tb_X8_isTape_51 (F := F) C hr hk17 h
      · replace h := g_ifT c10 h
        refine v_iconst (pc := 46) C 26 1 rfl (by decide) ?_
        refine v_goto (pc := 47) C 27 51 rfl (by decide) ?_
        refine v_sub [(0, .ref x0), (1, .int x1), (2, .int x2), (4, .int x4)] [0, 1, 2, 4] rfl ?_
        exact tb_X8_isTape_51 (F := F) C hr hk17 h
def l_X8_isTape_17 (sh : List gS) (F : Nat) : Nat → Nat → Int32 → Int32 → Int32 → Int32 → gM → Option (Int32 × gM)
  | 0 => fun _ _ _ _ _ _ => none
  | n + 1 => fun x0 x1 x2 x3 x4 m => b_X8_isTape_17 sh F (l_X8_isTape_17 sh F n) x0 x1 x2 x3 x4 m
theorem tl_X8_isTape_17 {X : gX} {w : gW} {rr : Int32} {rm : gM} (C : gC X w K_X8_isTape 5 RX8 0) (hr : X.2.2.2.2.2.2.2.2.1.sig.returnType = (some .boolean)) {F : Nat} : ∀ (n : Nat) (x0 : Nat) (x1 : Int32) (x2 : Int32) (x3 : Int32) (x4 : Int32) (m : gM), l_X8_isTape_17 w.2.2.2.2.1 F n x0 x1 x2 x3 x4 m = some (rr, rm) → gV X w 0 0 (gR X w (some (.int rr)) rm) 5 17 [(0, .ref x0), (1, .int x1), (2, .int x2), (3, .int x3), (4, .int x4)] [] m := by
  intro n
  induction n with
  | zero => intro x0 x1 x2 x3 x4 m h; cases h
  | succ n ih => intro x0 x1 x2 x3 x4 m h; exact tb_X8_isTape_17 (F := F) C hr ih h
def b_X8_isTape_13 (sh : List gS) (F : Nat) (x0 : Nat) (x1 : Int32) (x2 : Int32) (y0 : Int32) (m : gM) : Option (Int32 × gM) :=
  l_X8_isTape_17 sh F F x0 x1 x2 y0 0 m
set_option maxRecDepth 100000 in
set_option maxHeartbeats 4000000 in
theorem tb_X8_isTape_13 {X : gX} {w : gW} {rr : Int32} {rm : gM} (C : gC X w K_X8_isTape 5 RX8 0) (hr : X.2.2.2.2.2.2.2.2.1.sig.returnType = (some .boolean)) {F : Nat} {x0 : Nat} {x1 : Int32} {x2 : Int32} {y0 : Int32} {m : gM} (h : b_X8_isTape_13 w.2.2.2.2.1 F x0 x1 x2 y0 m = some (rr, rm)) : gV X w 0 0 (gR X w (some (.int rr)) rm) 5 13 [(0, .ref x0), (1, .int x1), (2, .int x2)] [.int y0] m := by
  unfold b_X8_isTape_13 at h
  refine v_istore_n (pc := 13) (lv' := [(3, .int y0), (0, .ref x0), (1, .int x1), (2, .int x2)]) C 7 rfl rfl (by decide) rfl ?_
  refine v_iconst (pc := 14) C 8 0 rfl (by decide) ?_
  refine v_istore (pc := 15) (lv' := [(4, .int 0), (3, .int y0), (0, .ref x0), (1, .int x1), (2, .int x2)]) C 9 rfl (by decide) rfl ?_
  refine v_sub [(0, .ref x0), (1, .int x1), (2, .int x2), (3, .int y0), (4, .int 0)] [2, 3, 4, 1, 0] rfl ?_
  exact tl_X8_isTape_17 (F := F) C hr _ _ _ _ _ _ _ h
def f_X8_isTape (sh : List gS) (F : Nat) (x0 : Nat) (x1 : Int32) (x2 : Int32) (m : gM) : Option (Int32 × gM) :=
  g_if (oB sh x0 8) (if x2 = (m.1 x0 2) then (b_X8_isTape_13 sh F x0 x1 x2 1 m) else (b_X8_isTape_13 sh F x0 x1 x2 0 m))
set_option maxRecDepth 100000 in
set_option maxHeartbeats 4000000 in
theorem tf_X8_isTape {X : gX} {w : gW} {rr : Int32} {rm : gM} (C : gC X w K_X8_isTape 5 RX8 0) (hr : X.2.2.2.2.2.2.2.2.1.sig.returnType = (some .boolean)) {F : Nat} {x0 : Nat} {x1 : Int32} {x2 : Int32} {m : gM} (h : f_X8_isTape w.2.2.2.2.1 F x0 x1 x2 m = some (rr, rm)) : gV X w 0 0 (gR X w (some (.int rr)) rm) 5 0 [(0, .ref x0), (1, .int x1), (2, .int x2)] [] m := by
  unfold f_X8_isTape at h
  refine v_iload_n (pc := 0) C 0 2 rfl rfl rfl ?_
  refine v_aload_n (pc := 1) C 1 0 rfl rfl rfl ?_
  obtain ⟨o1, h⟩ := g_okk h
  refine v_getI (pc := 2) C 2 rfl lf_ScopeGraphModel_157.get (g_oB o1) rfl ?_
  refine v_icmp_ne (pc := 5) C 3 12 rfl (by decide) (fun c2 => ?_) (fun c2 => ?_)
  · replace h := g_ifF c2 h
    refine v_iconst (pc := 12) C 6 0 rfl (by decide) ?_
    refine v_sub [(0, .ref x0), (1, .int x1), (2, .int x2)] [0, 1, 2] rfl ?_
    exact tb_X8_isTape_13 (F := F) C hr h
  · replace h := g_ifT c2 h
    refine v_iconst (pc := 8) C 4 1 rfl (by decide) ?_
    refine v_goto (pc := 9) C 5 13 rfl (by decide) ?_
    refine v_sub [(0, .ref x0), (1, .int x1), (2, .int x2)] [0, 1, 2] rfl ?_
    exact tb_X8_isTape_13 (F := F) C hr h
theorem c_X8_isTape {l : Launch} {w : gW} {rr : Int32} {rm : gM} (hJ : gJok w) {F : Nat} {x0 : Nat} {x1 : Int32} {x2 : Int32} {m : gM} (h : f_X8_isTape w.2.2.2.2.1 F x0 x1 x2 m = some (rr, rm)) : gMet l 0 yX8_isTape cX8_isTape 5 (some .boolean) w [.ref x0, .int x1, .int x2] m (some (.int rr)) rm :=
  gMet.of hJ mf_X8_isTape dk_X8_isTape (Nat.le_of_ble_eq_true rfl) (fun X _ C hr => tf_X8_isTape (F := F) C hr h)
def b_X8_build_330 (sh : List gS) (F : Nat) (k123 : Nat → Int64 → Int32 → gM → Option (Int32 × gM)) (x0 : Nat) (x1 : Int64) (x4 : Int32) (m : gM) : Option (Int32 × gM) :=
  k123 x0 x1 x4 m
set_option maxRecDepth 100000 in
set_option maxHeartbeats 4000000 in
theorem tb_X8_build_330 {X : gX} {w : gW} {rr : Int32} {rm : gM} (C : gC X w K_X8_build 7 RX8 1) (hr : X.2.2.2.2.2.2.2.2.1.sig.returnType = (some .boolean)) {F : Nat} {k123 : Nat → Int64 → Int32 → gM → Option (Int32 × gM)} (hk123 : ∀ (z0 : Nat) (z1 : Int64) (z4 : Int32) (m : gM), k123 z0 z1 z4 m = some (rr, rm) → gV X w 0 0 (gR X w (some (.int rr)) rm) 7 123 [(0, .ref z0), (1, .long z1), (4, .int z4)] [] m) {x0 : Nat} {x1 : Int64} {x4 : Int32} {m : gM} (h : b_X8_build_330 w.2.2.2.2.1 F k123 x0 x1 x4 m = some (rr, rm)) : gV X w 0 0 (gR X w (some (.int rr)) rm) 7 330 [(0, .ref x0), (1, .long x1), (4, .int x4)] [] m := by
  unfold b_X8_build_330 at h
  refine v_goto (pc := 330) C 169 123 rfl (by decide) ?_
  refine v_sub [(0, .ref x0), (1, .long x1), (4, .int x4)] [0, 1, 2] rfl ?_
  exact hk123 _ _ _ _ h
def b_X8_build_282 (sh : List gS) (F : Nat) (k123 : Nat → Int64 → Int32 → gM → Option (Int32 × gM)) (k282 : Nat → Int64 → Int32 → Int32 → Int32 → gM → Option (Int32 × gM)) (x0 : Nat) (x1 : Int64) (x4 : Int32) (x5 : Int32) (x6 : Int32) (m : gM) : Option (Int32 × gM) :=
  g_if (oB sh x0 8) (if (m.1 x0 2) ≤ x6 then (nm (x4 + x5) (fun v3 => b_X8_build_330 sh F k123 x0 x1 v3 m)) else ((m.2.2 x0 5).bind (fun t4 => (m.2.2 x0 1).bind (fun t5 => g_if (aB sh t5 .int x6) (g_if (aB sh t4 .int (m.1 x0 6)) (nm (gsI m t4 (m.1 x0 6).toNatClampNeg (m.1 t5 (x6).toNatClampNeg)) (fun m8 => nm (gsI m8 x0 6 ((m8.1 x0 6) + (1 : Int32))) (fun m9 => nm (x6 + Int32.ofInt 1) (fun v10 => k282 x0 x1 x4 x5 v10 m9)))))))))
set_option maxRecDepth 100000 in
set_option maxHeartbeats 4000000 in
theorem tb_X8_build_282 {X : gX} {w : gW} {rr : Int32} {rm : gM} (C : gC X w K_X8_build 7 RX8 1) (hr : X.2.2.2.2.2.2.2.2.1.sig.returnType = (some .boolean)) {F : Nat} {k123 : Nat → Int64 → Int32 → gM → Option (Int32 × gM)} {k282 : Nat → Int64 → Int32 → Int32 → Int32 → gM → Option (Int32 × gM)} (hk123 : ∀ (z0 : Nat) (z1 : Int64) (z4 : Int32) (m : gM), k123 z0 z1 z4 m = some (rr, rm) → gV X w 0 0 (gR X w (some (.int rr)) rm) 7 123 [(0, .ref z0), (1, .long z1), (4, .int z4)] [] m) (hk282 : ∀ (z0 : Nat) (z1 : Int64) (z4 : Int32) (z5 : Int32) (z6 : Int32) (m : gM), k282 z0 z1 z4 z5 z6 m = some (rr, rm) → gV X w 0 0 (gR X w (some (.int rr)) rm) 7 282 [(0, .ref z0), (1, .long z1), (4, .int z4), (5, .int z5), (6, .int z6)] [] m) {x0 : Nat} {x1 : Int64} {x4 : Int32} {x5 : Int32} {x6 : Int32} {m : gM} (h : b_X8_build_282 w.2.2.2.2.1 F k123 k282 x0 x1 x4 x5 x6 m = some (rr, rm)) : gV X w 0 0 (gR X w (some (.int rr)) rm) 7 282 [(0, .ref x0), (1, .long x1), (4, .int x4), (5, .int x5), (6, .int x6)] [] m := by
  unfold b_X8_build_282 at h
  refine v_iload (pc := 282) C 144 4 rfl rfl ?_
  refine v_aload_n (pc := 284) C 145 0 rfl rfl rfl ?_
  obtain ⟨o1, h⟩ := g_okk h
  refine v_getI (pc := 285) C 146 rfl lf_ScopeGraphModel_157.get (g_oB o1) rfl ?_
  refine v_icmp_ge (pc := 288) C 147 323 rfl (by decide) (fun c2 => ?_) (fun c2 => ?_)
  · replace h := g_ifT c2 h
    refine v_iload (pc := 323) C 165 2 rfl rfl ?_
    refine v_iload (pc := 325) C 166 3 rfl rfl ?_
    refine v_iadd (pc := 327) C 167 rfl ?_
    refine v_topI (fun v3 ev3 => ?_)
    replace h := g_nm h ev3
    refine v_istore (pc := 328) (lv' := [(4, .int v3), (0, .ref x0), (1, .long x1), (5, .int x5), (6, .int x6)]) C 168 rfl (by decide) rfl ?_
    refine v_sub [(0, .ref x0), (1, .long x1), (4, .int v3)] [1, 2, 0] rfl ?_
    exact tb_X8_build_330 (F := F) C hr hk123 h
  · replace h := g_ifF c2 h
    refine v_aload_n (pc := 291) C 148 0 rfl rfl rfl ?_
    obtain ⟨t4, qt4, h⟩ := g_bd h
    refine v_getR (pc := 292) C 149 rfl lf_ScopeGraphModel_16 (g_oB o1) rfl qt4 ?_
    refine v_aload_n (pc := 295) C 150 0 rfl rfl rfl ?_
    refine v_getI (pc := 296) C 151 rfl lf_ScopeGraphModel_174.get (g_oB o1) rfl ?_
    refine v_aload_n (pc := 299) C 152 0 rfl rfl rfl ?_
    obtain ⟨t5, qt5, h⟩ := g_bd h
    refine v_getR (pc := 300) C 153 rfl lf_ScopeGraphModel_7 (g_oB o1) rfl qt5 ?_
    refine v_iload (pc := 303) C 154 4 rfl rfl ?_
    obtain ⟨b6, h⟩ := g_okk h
    refine v_iald' (pc := 305) C 155 rfl b6 ?_
    obtain ⟨b7, h⟩ := g_okk h
    refine v_iast' (pc := 306) C 156 rfl b7 ?_
    refine v_topM (fun m8 em8 => ?_)
    replace h := g_nm h em8
    refine v_aload_n (pc := 307) C 157 0 rfl rfl rfl ?_
    refine v_dup (pc := 308) C 158 rfl rfl ?_
    refine v_getI (pc := 309) C 159 rfl lf_ScopeGraphModel_174.get (g_oB o1) rfl ?_
    refine v_iconst (pc := 312) C 160 1 rfl (by decide) ?_
    refine v_iadd (pc := 313) C 161 rfl ?_
    refine v_putI (pc := 314) C 162 rfl lf_ScopeGraphModel_174 (g_oB o1) rfl ?_
    refine v_topM (fun m9 em9 => ?_)
    replace h := g_nm h em9
    refine v_iincN (pc := 317) C 163 4 (fun v10 => [(6, .int v10), (0, .ref x0), (1, .long x1), (4, .int x4), (5, .int x5)]) rfl rfl (by decide) (fun _ => rfl) (fun v10 ev10 => ?_)
    replace h := g_nm h ev10
    refine v_goto (pc := 320) C 164 282 rfl (by decide) ?_
    refine v_sub [(0, .ref x0), (1, .long x1), (4, .int x4), (5, .int x5), (6, .int v10)] [1, 2, 3, 4, 0] rfl ?_
    exact hk282 _ _ _ _ _ _ h
def l_X8_build_282 (sh : List gS) (F : Nat) (k123 : Nat → Int64 → Int32 → gM → Option (Int32 × gM)) : Nat → Nat → Int64 → Int32 → Int32 → Int32 → gM → Option (Int32 × gM)
  | 0 => fun _ _ _ _ _ _ => none
  | n + 1 => fun x0 x1 x4 x5 x6 m => b_X8_build_282 sh F k123 (l_X8_build_282 sh F k123 n) x0 x1 x4 x5 x6 m
theorem tl_X8_build_282 {X : gX} {w : gW} {rr : Int32} {rm : gM} (C : gC X w K_X8_build 7 RX8 1) (hr : X.2.2.2.2.2.2.2.2.1.sig.returnType = (some .boolean)) {F : Nat} {k123 : Nat → Int64 → Int32 → gM → Option (Int32 × gM)} (hk123 : ∀ (z0 : Nat) (z1 : Int64) (z4 : Int32) (m : gM), k123 z0 z1 z4 m = some (rr, rm) → gV X w 0 0 (gR X w (some (.int rr)) rm) 7 123 [(0, .ref z0), (1, .long z1), (4, .int z4)] [] m) : ∀ (n : Nat) (x0 : Nat) (x1 : Int64) (x4 : Int32) (x5 : Int32) (x6 : Int32) (m : gM), l_X8_build_282 w.2.2.2.2.1 F k123 n x0 x1 x4 x5 x6 m = some (rr, rm) → gV X w 0 0 (gR X w (some (.int rr)) rm) 7 282 [(0, .ref x0), (1, .long x1), (4, .int x4), (5, .int x5), (6, .int x6)] [] m := by
  intro n
  induction n with
  | zero => intro x0 x1 x4 x5 x6 m h; cases h
  | succ n ih => intro x0 x1 x4 x5 x6 m h; exact tb_X8_build_282 (F := F) C hr hk123 ih h
def b_X8_build_234 (sh : List gS) (F : Nat) (k123 : Nat → Int64 → Int32 → gM → Option (Int32 × gM)) (k191 : Nat → Int64 → Int32 → Int32 → Int32 → gM → Option (Int32 × gM)) (x0 : Nat) (x1 : Int64) (x4 : Int32) (x6 : Int32) (y0 : Int32) (m : gM) : Option (Int32 × gM) :=
  nm (x6 + Int32.ofInt 1) (fun v1 => k191 x0 x1 x4 y0 v1 m)
set_option maxRecDepth 100000 in
set_option maxHeartbeats 4000000 in
theorem tb_X8_build_234 {X : gX} {w : gW} {rr : Int32} {rm : gM} (C : gC X w K_X8_build 7 RX8 1) (hr : X.2.2.2.2.2.2.2.2.1.sig.returnType = (some .boolean)) {F : Nat} {k123 : Nat → Int64 → Int32 → gM → Option (Int32 × gM)} {k191 : Nat → Int64 → Int32 → Int32 → Int32 → gM → Option (Int32 × gM)} (hk123 : ∀ (z0 : Nat) (z1 : Int64) (z4 : Int32) (m : gM), k123 z0 z1 z4 m = some (rr, rm) → gV X w 0 0 (gR X w (some (.int rr)) rm) 7 123 [(0, .ref z0), (1, .long z1), (4, .int z4)] [] m) (hk191 : ∀ (z0 : Nat) (z1 : Int64) (z4 : Int32) (z5 : Int32) (z6 : Int32) (m : gM), k191 z0 z1 z4 z5 z6 m = some (rr, rm) → gV X w 0 0 (gR X w (some (.int rr)) rm) 7 191 [(0, .ref z0), (1, .long z1), (4, .int z4), (5, .int z5), (6, .int z6)] [] m) {x0 : Nat} {x1 : Int64} {x4 : Int32} {x6 : Int32} {y0 : Int32} {m : gM} (h : b_X8_build_234 w.2.2.2.2.1 F k123 k191 x0 x1 x4 x6 y0 m = some (rr, rm)) : gV X w 0 0 (gR X w (some (.int rr)) rm) 7 234 [(0, .ref x0), (1, .long x1), (4, .int x4), (6, .int x6)] [.int y0] m := by
  unfold b_X8_build_234 at h
  refine v_istore (pc := 234) (lv' := [(5, .int y0), (0, .ref x0), (1, .long x1), (4, .int x4), (6, .int x6)]) C 120 rfl (by decide) rfl ?_
  refine v_iincN (pc := 236) C 121 4 (fun v1 => [(6, .int v1), (5, .int y0), (0, .ref x0), (1, .long x1), (4, .int x4)]) rfl rfl (by decide) (fun _ => rfl) (fun v1 ev1 => ?_)
  replace h := g_nm h ev1
  refine v_goto (pc := 239) C 122 191 rfl (by decide) ?_
  refine v_sub [(0, .ref x0), (1, .long x1), (4, .int x4), (5, .int y0), (6, .int v1)] [2, 3, 4, 1, 0] rfl ?_
  exact hk191 _ _ _ _ _ _ h
def b_X8_build_232 (sh : List gS) (F : Nat) (k123 : Nat → Int64 → Int32 → gM → Option (Int32 × gM)) (k191 : Nat → Int64 → Int32 → Int32 → Int32 → gM → Option (Int32 × gM)) (x0 : Nat) (x1 : Int64) (x4 : Int32) (x5 : Int32) (x6 : Int32) (m : gM) : Option (Int32 × gM) :=
  b_X8_build_234 sh F k123 k191 x0 x1 x4 x6 x5 m
set_option maxRecDepth 100000 in
set_option maxHeartbeats 4000000 in
theorem tb_X8_build_232 {X : gX} {w : gW} {rr : Int32} {rm : gM} (C : gC X w K_X8_build 7 RX8 1) (hr : X.2.2.2.2.2.2.2.2.1.sig.returnType = (some .boolean)) {F : Nat} {k123 : Nat → Int64 → Int32 → gM → Option (Int32 × gM)} {k191 : Nat → Int64 → Int32 → Int32 → Int32 → gM → Option (Int32 × gM)} (hk123 : ∀ (z0 : Nat) (z1 : Int64) (z4 : Int32) (m : gM), k123 z0 z1 z4 m = some (rr, rm) → gV X w 0 0 (gR X w (some (.int rr)) rm) 7 123 [(0, .ref z0), (1, .long z1), (4, .int z4)] [] m) (hk191 : ∀ (z0 : Nat) (z1 : Int64) (z4 : Int32) (z5 : Int32) (z6 : Int32) (m : gM), k191 z0 z1 z4 z5 z6 m = some (rr, rm) → gV X w 0 0 (gR X w (some (.int rr)) rm) 7 191 [(0, .ref z0), (1, .long z1), (4, .int z4), (5, .int z5), (6, .int z6)] [] m) {x0 : Nat} {x1 : Int64} {x4 : Int32} {x5 : Int32} {x6 : Int32} {m : gM} (h : b_X8_build_232 w.2.2.2.2.1 F k123 k191 x0 x1 x4 x5 x6 m = some (rr, rm)) : gV X w 0 0 (gR X w (some (.int rr)) rm) 7 232 [(0, .ref x0), (1, .long x1), (4, .int x4), (5, .int x5), (6, .int x6)] [] m := by
  unfold b_X8_build_232 at h
  refine v_iload (pc := 232) C 119 3 rfl rfl ?_
  refine v_sub [(0, .ref x0), (1, .long x1), (4, .int x4), (6, .int x6)] [0, 1, 2, 4] rfl ?_
  exact tb_X8_build_234 (F := F) C hr hk123 hk191 h
def b_X8_build_191 (sh : List gS) (F : Nat) (k123 : Nat → Int64 → Int32 → gM → Option (Int32 × gM)) (k191 : Nat → Int64 → Int32 → Int32 → Int32 → gM → Option (Int32 × gM)) (x0 : Nat) (x1 : Int64) (x4 : Int32) (x5 : Int32) (x6 : Int32) (m : gM) : Option (Int32 × gM) :=
  g_if (oB sh x0 8) (if (m.1 x0 20) ≤ x6 then (if x5 = 0 then ((m.2.2 x0 5).bind (fun t4 => (m.2.2 x0 3).bind (fun t5 => g_if (aB sh t5 .int x4) (g_if (aB sh t4 .int (m.1 x0 6)) (nm (gsI m t4 (m.1 x0 6).toNatClampNeg (m.1 t5 (x4).toNatClampNeg)) (fun m8 => nm (gsI m8 x0 6 ((m8.1 x0 6) + (1 : Int32))) (fun m9 => nm (x4 + Int32.ofInt 1) (fun v10 => b_X8_build_330 sh F k123 x0 x1 v10 m9)))))))) else (l_X8_build_282 sh F k123 F x0 x1 x4 x5 0 m)) else ((m.2.2 x0 72).bind (fun t11 => g_if (aB sh t11 .boolean x6) (if (m.1 t11 (x6).toNatClampNeg) = 0 then (b_X8_build_232 sh F k123 k191 x0 x1 x4 x5 x6 m) else ((m.2.2 x0 17).bind (fun t14 => g_if (aB sh t14 .int x6) (if (m.1 t14 (x6).toNatClampNeg) = x4 then ((m.2.2 x0 18).bind (fun t17 => g_if (aB sh t17 .int x6) (b_X8_build_234 sh F k123 k191 x0 x1 x4 x6 (m.1 t17 (x6).toNatClampNeg) m))) else (b_X8_build_232 sh F k123 k191 x0 x1 x4 x5 x6 m))))))))
set_option maxRecDepth 100000 in
set_option maxHeartbeats 4000000 in
theorem tb_X8_build_191 {X : gX} {w : gW} {rr : Int32} {rm : gM} (C : gC X w K_X8_build 7 RX8 1) (hr : X.2.2.2.2.2.2.2.2.1.sig.returnType = (some .boolean)) {F : Nat} {k123 : Nat → Int64 → Int32 → gM → Option (Int32 × gM)} {k191 : Nat → Int64 → Int32 → Int32 → Int32 → gM → Option (Int32 × gM)} (hk123 : ∀ (z0 : Nat) (z1 : Int64) (z4 : Int32) (m : gM), k123 z0 z1 z4 m = some (rr, rm) → gV X w 0 0 (gR X w (some (.int rr)) rm) 7 123 [(0, .ref z0), (1, .long z1), (4, .int z4)] [] m) (hk191 : ∀ (z0 : Nat) (z1 : Int64) (z4 : Int32) (z5 : Int32) (z6 : Int32) (m : gM), k191 z0 z1 z4 z5 z6 m = some (rr, rm) → gV X w 0 0 (gR X w (some (.int rr)) rm) 7 191 [(0, .ref z0), (1, .long z1), (4, .int z4), (5, .int z5), (6, .int z6)] [] m) {x0 : Nat} {x1 : Int64} {x4 : Int32} {x5 : Int32} {x6 : Int32} {m : gM} (h : b_X8_build_191 w.2.2.2.2.1 F k123 k191 x0 x1 x4 x5 x6 m = some (rr, rm)) : gV X w 0 0 (gR X w (some (.int rr)) rm) 7 191 [(0, .ref x0), (1, .long x1), (4, .int x4), (5, .int x5), (6, .int x6)] [] m := by
  unfold b_X8_build_191 at h
  refine v_iload (pc := 191) C 99 4 rfl rfl ?_
  refine v_aload_n (pc := 193) C 100 0 rfl rfl rfl ?_
  obtain ⟨o1, h⟩ := g_okk h
  refine v_getI (pc := 194) C 101 rfl lf_ScopeGraphModel_223.get (g_oB o1) rfl ?_
  refine v_icmp_ge (pc := 197) C 102 242 rfl (by decide) (fun c2 => ?_) (fun c2 => ?_)
  · replace h := g_ifT c2 h
    refine v_iload (pc := 242) C 123 3 rfl rfl ?_
    refine v_if_ne (pc := 244) C 124 279 rfl (by decide) (fun c3 => ?_) (fun c3 => ?_)
    · replace h := g_ifF c3 h
      refine v_iconst (pc := 279) C 142 0 rfl (by decide) ?_
      refine v_istore (pc := 280) (lv' := [(6, .int 0), (0, .ref x0), (1, .long x1), (4, .int x4), (5, .int x5)]) C 143 rfl (by decide) rfl ?_
      refine v_sub [(0, .ref x0), (1, .long x1), (4, .int x4), (5, .int x5), (6, .int 0)] [1, 2, 3, 4, 0] rfl ?_
      exact tl_X8_build_282 (F := F) C hr hk123 _ _ _ _ _ _ _ h
    · replace h := g_ifT c3 h
      refine v_aload_n (pc := 247) C 125 0 rfl rfl rfl ?_
      obtain ⟨t4, qt4, h⟩ := g_bd h
      refine v_getR (pc := 248) C 126 rfl lf_ScopeGraphModel_16 (g_oB o1) rfl qt4 ?_
      refine v_aload_n (pc := 251) C 127 0 rfl rfl rfl ?_
      refine v_getI (pc := 252) C 128 rfl lf_ScopeGraphModel_174.get (g_oB o1) rfl ?_
      refine v_aload_n (pc := 255) C 129 0 rfl rfl rfl ?_
      obtain ⟨t5, qt5, h⟩ := g_bd h
      refine v_getR (pc := 256) C 130 rfl lf_ScopeGraphModel_13 (g_oB o1) rfl qt5 ?_
      refine v_iload (pc := 259) C 131 2 rfl rfl ?_
      obtain ⟨b6, h⟩ := g_okk h
      refine v_iald' (pc := 261) C 132 rfl b6 ?_
      obtain ⟨b7, h⟩ := g_okk h
      refine v_iast' (pc := 262) C 133 rfl b7 ?_
      refine v_topM (fun m8 em8 => ?_)
      replace h := g_nm h em8
      refine v_aload_n (pc := 263) C 134 0 rfl rfl rfl ?_
      refine v_dup (pc := 264) C 135 rfl rfl ?_
      refine v_getI (pc := 265) C 136 rfl lf_ScopeGraphModel_174.get (g_oB o1) rfl ?_
      refine v_iconst (pc := 268) C 137 1 rfl (by decide) ?_
      refine v_iadd (pc := 269) C 138 rfl ?_
      refine v_putI (pc := 270) C 139 rfl lf_ScopeGraphModel_174 (g_oB o1) rfl ?_
      refine v_topM (fun m9 em9 => ?_)
      replace h := g_nm h em9
      refine v_iincN (pc := 273) C 140 2 (fun v10 => [(4, .int v10), (0, .ref x0), (1, .long x1), (5, .int x5), (6, .int x6)]) rfl rfl (by decide) (fun _ => rfl) (fun v10 ev10 => ?_)
      replace h := g_nm h ev10
      refine v_goto (pc := 276) C 141 330 rfl (by decide) ?_
      refine v_sub [(0, .ref x0), (1, .long x1), (4, .int v10)] [1, 2, 0] rfl ?_
      exact tb_X8_build_330 (F := F) C hr hk123 h
  · replace h := g_ifF c2 h
    refine v_aload_n (pc := 200) C 103 0 rfl rfl rfl ?_
    obtain ⟨t11, qt11, h⟩ := g_bd h
    refine v_getR (pc := 201) C 104 rfl lf_ScopeGraphModel_151 (g_oB o1) rfl qt11 ?_
    refine v_iload (pc := 204) C 105 4 rfl rfl ?_
    obtain ⟨b12, h⟩ := g_okk h
    refine v_zald' (pc := 206) C 106 rfl b12 ?_
    refine v_if_eq (pc := 207) C 107 232 rfl (by decide) (fun c13 => ?_) (fun c13 => ?_)
    · replace h := g_ifT c13 h
      refine v_sub [(0, .ref x0), (1, .long x1), (4, .int x4), (5, .int x5), (6, .int x6)] [0, 1, 2, 3, 4] rfl ?_
      exact tb_X8_build_232 (F := F) C hr hk123 hk191 h
    · replace h := g_ifF c13 h
      refine v_aload_n (pc := 210) C 108 0 rfl rfl rfl ?_
      obtain ⟨t14, qt14, h⟩ := g_bd h
      refine v_getR (pc := 211) C 109 rfl lf_ScopeGraphModel_44 (g_oB o1) rfl qt14 ?_
      refine v_iload (pc := 214) C 110 4 rfl rfl ?_
      obtain ⟨b15, h⟩ := g_okk h
      refine v_iald' (pc := 216) C 111 rfl b15 ?_
      refine v_iload (pc := 217) C 112 2 rfl rfl ?_
      refine v_icmp_ne (pc := 219) C 113 232 rfl (by decide) (fun c16 => ?_) (fun c16 => ?_)
      · replace h := g_ifF c16 h
        refine v_sub [(0, .ref x0), (1, .long x1), (4, .int x4), (5, .int x5), (6, .int x6)] [0, 1, 2, 3, 4] rfl ?_
        exact tb_X8_build_232 (F := F) C hr hk123 hk191 h
      · replace h := g_ifT c16 h
        refine v_aload_n (pc := 222) C 114 0 rfl rfl rfl ?_
        obtain ⟨t17, qt17, h⟩ := g_bd h
        refine v_getR (pc := 223) C 115 rfl lf_ScopeGraphModel_47 (g_oB o1) rfl qt17 ?_
        refine v_iload (pc := 226) C 116 4 rfl rfl ?_
        obtain ⟨b18, h⟩ := g_okk h
        refine v_iald' (pc := 228) C 117 rfl b18 ?_
        refine v_goto (pc := 229) C 118 234 rfl (by decide) ?_
        refine v_sub [(0, .ref x0), (1, .long x1), (4, .int x4), (6, .int x6)] [0, 1, 2, 4] rfl ?_
        exact tb_X8_build_234 (F := F) C hr hk123 hk191 h
def l_X8_build_191 (sh : List gS) (F : Nat) (k123 : Nat → Int64 → Int32 → gM → Option (Int32 × gM)) : Nat → Nat → Int64 → Int32 → Int32 → Int32 → gM → Option (Int32 × gM)
  | 0 => fun _ _ _ _ _ _ => none
  | n + 1 => fun x0 x1 x4 x5 x6 m => b_X8_build_191 sh F k123 (l_X8_build_191 sh F k123 n) x0 x1 x4 x5 x6 m
theorem tl_X8_build_191 {X : gX} {w : gW} {rr : Int32} {rm : gM} (C : gC X w K_X8_build 7 RX8 1) (hr : X.2.2.2.2.2.2.2.2.1.sig.returnType = (some .boolean)) {F : Nat} {k123 : Nat → Int64 → Int32 → gM → Option (Int32 × gM)} (hk123 : ∀ (z0 : Nat) (z1 : Int64) (z4 : Int32) (m : gM), k123 z0 z1 z4 m = some (rr, rm) → gV X w 0 0 (gR X w (some (.int rr)) rm) 7 123 [(0, .ref z0), (1, .long z1), (4, .int z4)] [] m) : ∀ (n : Nat) (x0 : Nat) (x1 : Int64) (x4 : Int32) (x5 : Int32) (x6 : Int32) (m : gM), l_X8_build_191 w.2.2.2.2.1 F k123 n x0 x1 x4 x5 x6 m = some (rr, rm) → gV X w 0 0 (gR X w (some (.int rr)) rm) 7 191 [(0, .ref x0), (1, .long x1), (4, .int x4), (5, .int x5), (6, .int x6)] [] m := by
  intro n
  induction n with
  | zero => intro x0 x1 x4 x5 x6 m h; cases h
  | succ n ih => intro x0 x1 x4 x5 x6 m h; exact tb_X8_build_191 (F := F) C hr hk123 ih h
def b_X8_build_180 (sh : List gS) (F : Nat) (k123 : Nat → Int64 → Int32 → gM → Option (Int32 × gM)) (k138 : Nat → Int64 → Int32 → Int32 → Int32 → gM → Option (Int32 × gM)) (x0 : Nat) (x1 : Int64) (x4 : Int32) (x6 : Int32) (y0 : Int32) (m : gM) : Option (Int32 × gM) :=
  nm (x6 + Int32.ofInt 1) (fun v1 => k138 x0 x1 x4 y0 v1 m)
set_option maxRecDepth 100000 in
set_option maxHeartbeats 4000000 in
theorem tb_X8_build_180 {X : gX} {w : gW} {rr : Int32} {rm : gM} (C : gC X w K_X8_build 7 RX8 1) (hr : X.2.2.2.2.2.2.2.2.1.sig.returnType = (some .boolean)) {F : Nat} {k123 : Nat → Int64 → Int32 → gM → Option (Int32 × gM)} {k138 : Nat → Int64 → Int32 → Int32 → Int32 → gM → Option (Int32 × gM)} (hk123 : ∀ (z0 : Nat) (z1 : Int64) (z4 : Int32) (m : gM), k123 z0 z1 z4 m = some (rr, rm) → gV X w 0 0 (gR X w (some (.int rr)) rm) 7 123 [(0, .ref z0), (1, .long z1), (4, .int z4)] [] m) (hk138 : ∀ (z0 : Nat) (z1 : Int64) (z4 : Int32) (z5 : Int32) (z6 : Int32) (m : gM), k138 z0 z1 z4 z5 z6 m = some (rr, rm) → gV X w 0 0 (gR X w (some (.int rr)) rm) 7 138 [(0, .ref z0), (1, .long z1), (4, .int z4), (5, .int z5), (6, .int z6)] [] m) {x0 : Nat} {x1 : Int64} {x4 : Int32} {x6 : Int32} {y0 : Int32} {m : gM} (h : b_X8_build_180 w.2.2.2.2.1 F k123 k138 x0 x1 x4 x6 y0 m = some (rr, rm)) : gV X w 0 0 (gR X w (some (.int rr)) rm) 7 180 [(0, .ref x0), (1, .long x1), (4, .int x4), (6, .int x6)] [.int y0] m := by
  unfold b_X8_build_180 at h
  refine v_istore (pc := 180) (lv' := [(5, .int y0), (0, .ref x0), (1, .long x1), (4, .int x4), (6, .int x6)]) C 94 rfl (by decide) rfl ?_
  refine v_iincN (pc := 182) C 95 4 (fun v1 => [(6, .int v1), (5, .int y0), (0, .ref x0), (1, .long x1), (4, .int x4)]) rfl rfl (by decide) (fun _ => rfl) (fun v1 ev1 => ?_)
  replace h := g_nm h ev1
  refine v_goto (pc := 185) C 96 138 rfl (by decide) ?_
  refine v_sub [(0, .ref x0), (1, .long x1), (4, .int x4), (5, .int y0), (6, .int v1)] [2, 3, 4, 1, 0] rfl ?_
  exact hk138 _ _ _ _ _ _ h
def b_X8_build_178 (sh : List gS) (F : Nat) (k123 : Nat → Int64 → Int32 → gM → Option (Int32 × gM)) (k138 : Nat → Int64 → Int32 → Int32 → Int32 → gM → Option (Int32 × gM)) (x0 : Nat) (x1 : Int64) (x4 : Int32) (x5 : Int32) (x6 : Int32) (m : gM) : Option (Int32 × gM) :=
  b_X8_build_180 sh F k123 k138 x0 x1 x4 x6 x5 m
set_option maxRecDepth 100000 in
set_option maxHeartbeats 4000000 in
theorem tb_X8_build_178 {X : gX} {w : gW} {rr : Int32} {rm : gM} (C : gC X w K_X8_build 7 RX8 1) (hr : X.2.2.2.2.2.2.2.2.1.sig.returnType = (some .boolean)) {F : Nat} {k123 : Nat → Int64 → Int32 → gM → Option (Int32 × gM)} {k138 : Nat → Int64 → Int32 → Int32 → Int32 → gM → Option (Int32 × gM)} (hk123 : ∀ (z0 : Nat) (z1 : Int64) (z4 : Int32) (m : gM), k123 z0 z1 z4 m = some (rr, rm) → gV X w 0 0 (gR X w (some (.int rr)) rm) 7 123 [(0, .ref z0), (1, .long z1), (4, .int z4)] [] m) (hk138 : ∀ (z0 : Nat) (z1 : Int64) (z4 : Int32) (z5 : Int32) (z6 : Int32) (m : gM), k138 z0 z1 z4 z5 z6 m = some (rr, rm) → gV X w 0 0 (gR X w (some (.int rr)) rm) 7 138 [(0, .ref z0), (1, .long z1), (4, .int z4), (5, .int z5), (6, .int z6)] [] m) {x0 : Nat} {x1 : Int64} {x4 : Int32} {x5 : Int32} {x6 : Int32} {m : gM} (h : b_X8_build_178 w.2.2.2.2.1 F k123 k138 x0 x1 x4 x5 x6 m = some (rr, rm)) : gV X w 0 0 (gR X w (some (.int rr)) rm) 7 178 [(0, .ref x0), (1, .long x1), (4, .int x4), (5, .int x5), (6, .int x6)] [] m := by
  unfold b_X8_build_178 at h
  refine v_iload (pc := 178) C 93 3 rfl rfl ?_
  refine v_sub [(0, .ref x0), (1, .long x1), (4, .int x4), (6, .int x6)] [0, 1, 2, 4] rfl ?_
  exact tb_X8_build_180 (F := F) C hr hk123 hk138 h
def b_X8_build_138 (sh : List gS) (F : Nat) (k123 : Nat → Int64 → Int32 → gM → Option (Int32 × gM)) (k138 : Nat → Int64 → Int32 → Int32 → Int32 → gM → Option (Int32 × gM)) (x0 : Nat) (x1 : Int64) (x4 : Int32) (x5 : Int32) (x6 : Int32) (m : gM) : Option (Int32 × gM) :=
  g_if (oB sh x0 8) (if (m.1 x0 15) ≤ x6 then (l_X8_build_191 sh F k123 F x0 x1 x4 x5 0 m) else ((f_X8_has sh F x1 x6 m).bind (fun q5 => nm q5.1 (fun r4 => nm q5.2 (fun m3 => if r4 = 0 then (b_X8_build_178 sh F k123 k138 x0 x1 x4 x5 x6 m3) else ((m3.2.2 x0 12).bind (fun t7 => g_if (aB sh t7 .int x6) (if (m3.1 t7 (x6).toNatClampNeg) = x4 then ((m3.2.2 x0 13).bind (fun t10 => g_if (aB sh t10 .int x6) (b_X8_build_180 sh F k123 k138 x0 x1 x4 x6 (m3.1 t10 (x6).toNatClampNeg) m3))) else (b_X8_build_178 sh F k123 k138 x0 x1 x4 x5 x6 m3)))))))))
set_option maxRecDepth 100000 in
set_option maxHeartbeats 4000000 in
theorem tb_X8_build_138 {X : gX} {w : gW} {rr : Int32} {rm : gM} (C : gC X w K_X8_build 7 RX8 1) (hr : X.2.2.2.2.2.2.2.2.1.sig.returnType = (some .boolean)) {F : Nat} {k123 : Nat → Int64 → Int32 → gM → Option (Int32 × gM)} {k138 : Nat → Int64 → Int32 → Int32 → Int32 → gM → Option (Int32 × gM)} (hk123 : ∀ (z0 : Nat) (z1 : Int64) (z4 : Int32) (m : gM), k123 z0 z1 z4 m = some (rr, rm) → gV X w 0 0 (gR X w (some (.int rr)) rm) 7 123 [(0, .ref z0), (1, .long z1), (4, .int z4)] [] m) (hk138 : ∀ (z0 : Nat) (z1 : Int64) (z4 : Int32) (z5 : Int32) (z6 : Int32) (m : gM), k138 z0 z1 z4 z5 z6 m = some (rr, rm) → gV X w 0 0 (gR X w (some (.int rr)) rm) 7 138 [(0, .ref z0), (1, .long z1), (4, .int z4), (5, .int z5), (6, .int z6)] [] m) {x0 : Nat} {x1 : Int64} {x4 : Int32} {x5 : Int32} {x6 : Int32} {m : gM} (h : b_X8_build_138 w.2.2.2.2.1 F k123 k138 x0 x1 x4 x5 x6 m = some (rr, rm)) : gV X w 0 0 (gR X w (some (.int rr)) rm) 7 138 [(0, .ref x0), (1, .long x1), (4, .int x4), (5, .int x5), (6, .int x6)] [] m := by
  unfold b_X8_build_138 at h
  refine v_iload (pc := 138) C 74 4 rfl rfl ?_
  refine v_aload_n (pc := 140) C 75 0 rfl rfl rfl ?_
  obtain ⟨o1, h⟩ := g_okk h
  refine v_getI (pc := 141) C 76 rfl lf_ScopeGraphModel_211.get (g_oB o1) rfl ?_
  refine v_icmp_ge (pc := 144) C 77 188 rfl (by decide) (fun c2 => ?_) (fun c2 => ?_)
  · replace h := g_ifT c2 h
    refine v_iconst (pc := 188) C 97 0 rfl (by decide) ?_
    refine v_istore (pc := 189) (lv' := [(6, .int 0), (0, .ref x0), (1, .long x1), (4, .int x4), (5, .int x5)]) C 98 rfl (by decide) rfl ?_
    refine v_sub [(0, .ref x0), (1, .long x1), (4, .int x4), (5, .int x5), (6, .int 0)] [1, 2, 3, 4, 0] rfl ?_
    exact tl_X8_build_191 (F := F) C hr hk123 _ _ _ _ _ _ _ h
  · replace h := g_ifF c2 h
    refine v_lload_n (pc := 147) C 78 1 rfl rfl rfl ?_
    refine v_iload (pc := 148) C 79 4 rfl rfl ?_
    obtain ⟨⟨r4, m3⟩, qm3, h⟩ := g_bd h
    replace h := g_nm (y := m3) (g_nm (y := r4) h rfl) rfl
    refine v_callS (pc := 150) C 80 rfl mf_X8_has sm_X8_has lm_ScopeGraphModel_351 (c_X8_has C.2.2.2.2.2.2.2.2.2.2.2 qm3) (by decide) rfl (Nat.le_of_ble_eq_true rfl) ⟨Nat.zero_le _, Nat.zero_le _⟩ rfl ?_
    change gV X w 0 0 (gR X w (some (.int rr)) rm) 7 153 [(0, .ref x0), (1, .long x1), (4, .int x4), (5, .int x5), (6, .int x6)] [.int r4] m3
    refine v_if_eq (pc := 153) C 81 178 rfl (by decide) (fun c6 => ?_) (fun c6 => ?_)
    · replace h := g_ifT c6 h
      refine v_sub [(0, .ref x0), (1, .long x1), (4, .int x4), (5, .int x5), (6, .int x6)] [0, 1, 2, 3, 4] rfl ?_
      exact tb_X8_build_178 (F := F) C hr hk123 hk138 h
    · replace h := g_ifF c6 h
      refine v_aload_n (pc := 156) C 82 0 rfl rfl rfl ?_
      obtain ⟨t7, qt7, h⟩ := g_bd h
      refine v_getR (pc := 157) C 83 rfl lf_ScopeGraphModel_32 (g_oB o1) rfl qt7 ?_
      refine v_iload (pc := 160) C 84 4 rfl rfl ?_
      obtain ⟨b8, h⟩ := g_okk h
      refine v_iald' (pc := 162) C 85 rfl b8 ?_
      refine v_iload (pc := 163) C 86 2 rfl rfl ?_
      refine v_icmp_ne (pc := 165) C 87 178 rfl (by decide) (fun c9 => ?_) (fun c9 => ?_)
      · replace h := g_ifF c9 h
        refine v_sub [(0, .ref x0), (1, .long x1), (4, .int x4), (5, .int x5), (6, .int x6)] [0, 1, 2, 3, 4] rfl ?_
        exact tb_X8_build_178 (F := F) C hr hk123 hk138 h
      · replace h := g_ifT c9 h
        refine v_aload_n (pc := 168) C 88 0 rfl rfl rfl ?_
        obtain ⟨t10, qt10, h⟩ := g_bd h
        refine v_getR (pc := 169) C 89 rfl lf_ScopeGraphModel_35 (g_oB o1) rfl qt10 ?_
        refine v_iload (pc := 172) C 90 4 rfl rfl ?_
        obtain ⟨b11, h⟩ := g_okk h
        refine v_iald' (pc := 174) C 91 rfl b11 ?_
        refine v_goto (pc := 175) C 92 180 rfl (by decide) ?_
        refine v_sub [(0, .ref x0), (1, .long x1), (4, .int x4), (6, .int x6)] [0, 1, 2, 4] rfl ?_
        exact tb_X8_build_180 (F := F) C hr hk123 hk138 h
def l_X8_build_138 (sh : List gS) (F : Nat) (k123 : Nat → Int64 → Int32 → gM → Option (Int32 × gM)) : Nat → Nat → Int64 → Int32 → Int32 → Int32 → gM → Option (Int32 × gM)
  | 0 => fun _ _ _ _ _ _ => none
  | n + 1 => fun x0 x1 x4 x5 x6 m => b_X8_build_138 sh F k123 (l_X8_build_138 sh F k123 n) x0 x1 x4 x5 x6 m
theorem tl_X8_build_138 {X : gX} {w : gW} {rr : Int32} {rm : gM} (C : gC X w K_X8_build 7 RX8 1) (hr : X.2.2.2.2.2.2.2.2.1.sig.returnType = (some .boolean)) {F : Nat} {k123 : Nat → Int64 → Int32 → gM → Option (Int32 × gM)} (hk123 : ∀ (z0 : Nat) (z1 : Int64) (z4 : Int32) (m : gM), k123 z0 z1 z4 m = some (rr, rm) → gV X w 0 0 (gR X w (some (.int rr)) rm) 7 123 [(0, .ref z0), (1, .long z1), (4, .int z4)] [] m) : ∀ (n : Nat) (x0 : Nat) (x1 : Int64) (x4 : Int32) (x5 : Int32) (x6 : Int32) (m : gM), l_X8_build_138 w.2.2.2.2.1 F k123 n x0 x1 x4 x5 x6 m = some (rr, rm) → gV X w 0 0 (gR X w (some (.int rr)) rm) 7 138 [(0, .ref x0), (1, .long x1), (4, .int x4), (5, .int x5), (6, .int x6)] [] m := by
  intro n
  induction n with
  | zero => intro x0 x1 x4 x5 x6 m h; cases h
  | succ n ih => intro x0 x1 x4 x5 x6 m h; exact tb_X8_build_138 (F := F) C hr hk123 ih h
def b_X8_build_123 (sh : List gS) (F : Nat) (k123 : Nat → Int64 → Int32 → gM → Option (Int32 × gM)) (x0 : Nat) (x1 : Int64) (x4 : Int32) (m : gM) : Option (Int32 × gM) :=
  g_if (oB sh x0 8) (if (m.1 x0 4) ≤ x4 then (some (1, m)) else (l_X8_build_138 sh F k123 F x0 x1 x4 0 0 m))
set_option maxRecDepth 100000 in
set_option maxHeartbeats 4000000 in
theorem tb_X8_build_123 {X : gX} {w : gW} {rr : Int32} {rm : gM} (C : gC X w K_X8_build 7 RX8 1) (hr : X.2.2.2.2.2.2.2.2.1.sig.returnType = (some .boolean)) {F : Nat} {k123 : Nat → Int64 → Int32 → gM → Option (Int32 × gM)} (hk123 : ∀ (z0 : Nat) (z1 : Int64) (z4 : Int32) (m : gM), k123 z0 z1 z4 m = some (rr, rm) → gV X w 0 0 (gR X w (some (.int rr)) rm) 7 123 [(0, .ref z0), (1, .long z1), (4, .int z4)] [] m) {x0 : Nat} {x1 : Int64} {x4 : Int32} {m : gM} (h : b_X8_build_123 w.2.2.2.2.1 F k123 x0 x1 x4 m = some (rr, rm)) : gV X w 0 0 (gR X w (some (.int rr)) rm) 7 123 [(0, .ref x0), (1, .long x1), (4, .int x4)] [] m := by
  unfold b_X8_build_123 at h
  refine v_iload (pc := 123) C 66 2 rfl rfl ?_
  refine v_aload_n (pc := 125) C 67 0 rfl rfl rfl ?_
  obtain ⟨o1, h⟩ := g_okk h
  refine v_getI (pc := 126) C 68 rfl lf_ScopeGraphModel_304.get (g_oB o1) rfl ?_
  refine v_icmp_ge (pc := 129) C 69 333 rfl (by decide) (fun c2 => ?_) (fun c2 => ?_)
  · replace h := g_ifT c2 h
    refine v_iconst (pc := 333) C 170 1 rfl (by decide) ?_
    obtain ⟨rfl, rfl⟩ := g_so h
    exact v_zret (pc := 334) C 171 rfl hr (by decide)
  · replace h := g_ifF c2 h
    refine v_iconst (pc := 132) C 70 0 rfl (by decide) ?_
    refine v_istore (pc := 133) (lv' := [(5, .int 0), (0, .ref x0), (1, .long x1), (4, .int x4)]) C 71 rfl (by decide) rfl ?_
    refine v_iconst (pc := 135) C 72 0 rfl (by decide) ?_
    refine v_istore (pc := 136) (lv' := [(6, .int 0), (5, .int 0), (0, .ref x0), (1, .long x1), (4, .int x4)]) C 73 rfl (by decide) rfl ?_
    refine v_sub [(0, .ref x0), (1, .long x1), (4, .int x4), (5, .int 0), (6, .int 0)] [2, 3, 4, 1, 0] rfl ?_
    exact tl_X8_build_138 (F := F) C hr hk123 _ _ _ _ _ _ _ h
def l_X8_build_123 (sh : List gS) (F : Nat) : Nat → Nat → Int64 → Int32 → gM → Option (Int32 × gM)
  | 0 => fun _ _ _ _ => none
  | n + 1 => fun x0 x1 x4 m => b_X8_build_123 sh F (l_X8_build_123 sh F n) x0 x1 x4 m
theorem tl_X8_build_123 {X : gX} {w : gW} {rr : Int32} {rm : gM} (C : gC X w K_X8_build 7 RX8 1) (hr : X.2.2.2.2.2.2.2.2.1.sig.returnType = (some .boolean)) {F : Nat} : ∀ (n : Nat) (x0 : Nat) (x1 : Int64) (x4 : Int32) (m : gM), l_X8_build_123 w.2.2.2.2.1 F n x0 x1 x4 m = some (rr, rm) → gV X w 0 0 (gR X w (some (.int rr)) rm) 7 123 [(0, .ref x0), (1, .long x1), (4, .int x4)] [] m := by
  intro n
  induction n with
  | zero => intro x0 x1 x4 m h; cases h
  | succ n ih => intro x0 x1 x4 m h; exact tb_X8_build_123 (F := F) C hr ih h
def b_X8_build_98 (sh : List gS) (F : Nat) (k62 : Nat → Int64 → Int32 → Int32 → gM → Option (Int32 × gM)) (x0 : Nat) (x1 : Int64) (x4 : Int32) (y0 : Int32) (y1 : Int32) (m : gM) : Option (Int32 × gM) :=
  nm (y1 + y0) (fun v1 => nm (x4 + Int32.ofInt 1) (fun v2 => k62 x0 x1 v1 v2 m))
set_option maxRecDepth 100000 in
set_option maxHeartbeats 4000000 in
theorem tb_X8_build_98 {X : gX} {w : gW} {rr : Int32} {rm : gM} (C : gC X w K_X8_build 7 RX8 1) (hr : X.2.2.2.2.2.2.2.2.1.sig.returnType = (some .boolean)) {F : Nat} {k62 : Nat → Int64 → Int32 → Int32 → gM → Option (Int32 × gM)} (hk62 : ∀ (z0 : Nat) (z1 : Int64) (z3 : Int32) (z4 : Int32) (m : gM), k62 z0 z1 z3 z4 m = some (rr, rm) → gV X w 0 0 (gR X w (some (.int rr)) rm) 7 62 [(0, .ref z0), (1, .long z1), (3, .int z3), (4, .int z4)] [] m) {x0 : Nat} {x1 : Int64} {x4 : Int32} {y0 : Int32} {y1 : Int32} {m : gM} (h : b_X8_build_98 w.2.2.2.2.1 F k62 x0 x1 x4 y0 y1 m = some (rr, rm)) : gV X w 0 0 (gR X w (some (.int rr)) rm) 7 98 [(0, .ref x0), (1, .long x1), (4, .int x4)] [.int y0, .int y1] m := by
  unfold b_X8_build_98 at h
  refine v_iadd (pc := 98) C 52 rfl ?_
  refine v_topI (fun v1 ev1 => ?_)
  replace h := g_nm h ev1
  refine v_istore_n (pc := 99) (lv' := [(3, .int v1), (0, .ref x0), (1, .long x1), (4, .int x4)]) C 53 rfl rfl (by decide) rfl ?_
  refine v_iincN (pc := 100) C 54 3 (fun v2 => [(4, .int v2), (3, .int v1), (0, .ref x0), (1, .long x1)]) rfl rfl (by decide) (fun _ => rfl) (fun v2 ev2 => ?_)
  replace h := g_nm h ev2
  refine v_goto (pc := 103) C 55 62 rfl (by decide) ?_
  refine v_sub [(0, .ref x0), (1, .long x1), (3, .int v1), (4, .int v2)] [2, 3, 1, 0] rfl ?_
  exact hk62 _ _ _ _ _ h
def b_X8_build_62 (sh : List gS) (F : Nat) (k62 : Nat → Int64 → Int32 → Int32 → gM → Option (Int32 × gM)) (x0 : Nat) (x1 : Int64) (x3 : Int32) (x4 : Int32) (m : gM) : Option (Int32 × gM) :=
  g_if (oB sh x0 8) (if (m.1 x0 20) ≤ x4 then (if x3 ≤ (4000 : Int32) then (nm (gsI m x0 6 0) (fun m4 => l_X8_build_123 sh F F x0 x1 0 m4)) else (some (0, m))) else ((m.2.2 x0 72).bind (fun t5 => g_if (aB sh t5 .boolean x4) (if (m.1 t5 (x4).toNatClampNeg) = 0 then (b_X8_build_98 sh F k62 x0 x1 x4 0 x3 m) else ((m.2.2 x0 18).bind (fun t8 => g_if (aB sh t8 .int x4) (b_X8_build_98 sh F k62 x0 x1 x4 ((m.1 x0 2) - (m.1 t8 (x4).toNatClampNeg)) x3 m)))))))
set_option maxRecDepth 100000 in
set_option maxHeartbeats 4000000 in
theorem tb_X8_build_62 {X : gX} {w : gW} {rr : Int32} {rm : gM} (C : gC X w K_X8_build 7 RX8 1) (hr : X.2.2.2.2.2.2.2.2.1.sig.returnType = (some .boolean)) {F : Nat} {k62 : Nat → Int64 → Int32 → Int32 → gM → Option (Int32 × gM)} (hk62 : ∀ (z0 : Nat) (z1 : Int64) (z3 : Int32) (z4 : Int32) (m : gM), k62 z0 z1 z3 z4 m = some (rr, rm) → gV X w 0 0 (gR X w (some (.int rr)) rm) 7 62 [(0, .ref z0), (1, .long z1), (3, .int z3), (4, .int z4)] [] m) {x0 : Nat} {x1 : Int64} {x3 : Int32} {x4 : Int32} {m : gM} (h : b_X8_build_62 w.2.2.2.2.1 F k62 x0 x1 x3 x4 m = some (rr, rm)) : gV X w 0 0 (gR X w (some (.int rr)) rm) 7 62 [(0, .ref x0), (1, .long x1), (3, .int x3), (4, .int x4)] [] m := by
  unfold b_X8_build_62 at h
  refine v_iload (pc := 62) C 33 3 rfl rfl ?_
  refine v_aload_n (pc := 64) C 34 0 rfl rfl rfl ?_
  obtain ⟨o1, h⟩ := g_okk h
  refine v_getI (pc := 65) C 35 rfl lf_ScopeGraphModel_223.get (g_oB o1) rfl ?_
  refine v_icmp_ge (pc := 68) C 36 106 rfl (by decide) (fun c2 => ?_) (fun c2 => ?_)
  · replace h := g_ifT c2 h
    refine v_iload_n (pc := 106) C 56 2 rfl rfl rfl ?_
    refine v_sipush (pc := 107) C 57 4000 rfl (by decide) ?_
    refine v_icmp_le (pc := 110) C 58 115 rfl (by decide) (fun c3 => ?_) (fun c3 => ?_)
    · replace h := g_ifT c3 h
      refine v_aload_n (pc := 115) C 61 0 rfl rfl rfl ?_
      refine v_iconst (pc := 116) C 62 0 rfl (by decide) ?_
      refine v_putI (pc := 117) C 63 rfl lf_ScopeGraphModel_174 (g_oB o1) rfl ?_
      refine v_topM (fun m4 em4 => ?_)
      replace h := g_nm h em4
      refine v_iconst (pc := 120) C 64 0 rfl (by decide) ?_
      refine v_istore (pc := 121) (lv' := [(4, .int 0), (0, .ref x0), (1, .long x1), (3, .int x3)]) C 65 rfl (by decide) rfl ?_
      refine v_sub [(0, .ref x0), (1, .long x1), (4, .int 0)] [1, 2, 0] rfl ?_
      exact tl_X8_build_123 (F := F) C hr _ _ _ _ _ h
    · replace h := g_ifF c3 h
      refine v_iconst (pc := 113) C 59 0 rfl (by decide) ?_
      obtain ⟨rfl, rfl⟩ := g_so h
      exact v_zret (pc := 114) C 60 rfl hr (by decide)
  · replace h := g_ifF c2 h
    refine v_iload_n (pc := 71) C 37 2 rfl rfl rfl ?_
    refine v_aload_n (pc := 72) C 38 0 rfl rfl rfl ?_
    obtain ⟨t5, qt5, h⟩ := g_bd h
    refine v_getR (pc := 73) C 39 rfl lf_ScopeGraphModel_151 (g_oB o1) rfl qt5 ?_
    refine v_iload (pc := 76) C 40 3 rfl rfl ?_
    obtain ⟨b6, h⟩ := g_okk h
    refine v_zald' (pc := 78) C 41 rfl b6 ?_
    refine v_if_eq (pc := 79) C 42 97 rfl (by decide) (fun c7 => ?_) (fun c7 => ?_)
    · replace h := g_ifT c7 h
      refine v_iconst (pc := 97) C 51 0 rfl (by decide) ?_
      refine v_sub [(0, .ref x0), (1, .long x1), (4, .int x4)] [0, 1, 3] rfl ?_
      exact tb_X8_build_98 (F := F) C hr hk62 h
    · replace h := g_ifF c7 h
      refine v_aload_n (pc := 82) C 43 0 rfl rfl rfl ?_
      refine v_getI (pc := 83) C 44 rfl lf_ScopeGraphModel_157.get (g_oB o1) rfl ?_
      refine v_aload_n (pc := 86) C 45 0 rfl rfl rfl ?_
      obtain ⟨t8, qt8, h⟩ := g_bd h
      refine v_getR (pc := 87) C 46 rfl lf_ScopeGraphModel_47 (g_oB o1) rfl qt8 ?_
      refine v_iload (pc := 90) C 47 3 rfl rfl ?_
      obtain ⟨b9, h⟩ := g_okk h
      refine v_iald' (pc := 92) C 48 rfl b9 ?_
      refine v_isub (pc := 93) C 49 rfl ?_
      refine v_goto (pc := 94) C 50 98 rfl (by decide) ?_
      refine v_sub [(0, .ref x0), (1, .long x1), (4, .int x4)] [0, 1, 3] rfl ?_
      exact tb_X8_build_98 (F := F) C hr hk62 h
def l_X8_build_62 (sh : List gS) (F : Nat) : Nat → Nat → Int64 → Int32 → Int32 → gM → Option (Int32 × gM)
  | 0 => fun _ _ _ _ _ => none
  | n + 1 => fun x0 x1 x3 x4 m => b_X8_build_62 sh F (l_X8_build_62 sh F n) x0 x1 x3 x4 m
theorem tl_X8_build_62 {X : gX} {w : gW} {rr : Int32} {rm : gM} (C : gC X w K_X8_build 7 RX8 1) (hr : X.2.2.2.2.2.2.2.2.1.sig.returnType = (some .boolean)) {F : Nat} : ∀ (n : Nat) (x0 : Nat) (x1 : Int64) (x3 : Int32) (x4 : Int32) (m : gM), l_X8_build_62 w.2.2.2.2.1 F n x0 x1 x3 x4 m = some (rr, rm) → gV X w 0 0 (gR X w (some (.int rr)) rm) 7 62 [(0, .ref x0), (1, .long x1), (3, .int x3), (4, .int x4)] [] m := by
  intro n
  induction n with
  | zero => intro x0 x1 x3 x4 m h; cases h
  | succ n ih => intro x0 x1 x3 x4 m h; exact tb_X8_build_62 (F := F) C hr ih h
def b_X8_build_51 (sh : List gS) (F : Nat) (k16 : Nat → Int64 → Int32 → Int32 → gM → Option (Int32 × gM)) (x0 : Nat) (x1 : Int64) (x4 : Int32) (y0 : Int32) (y1 : Int32) (m : gM) : Option (Int32 × gM) :=
  nm (y1 + y0) (fun v1 => nm (x4 + Int32.ofInt 1) (fun v2 => k16 x0 x1 v1 v2 m))
set_option maxRecDepth 100000 in
set_option maxHeartbeats 4000000 in
theorem tb_X8_build_51 {X : gX} {w : gW} {rr : Int32} {rm : gM} (C : gC X w K_X8_build 7 RX8 1) (hr : X.2.2.2.2.2.2.2.2.1.sig.returnType = (some .boolean)) {F : Nat} {k16 : Nat → Int64 → Int32 → Int32 → gM → Option (Int32 × gM)} (hk16 : ∀ (z0 : Nat) (z1 : Int64) (z3 : Int32) (z4 : Int32) (m : gM), k16 z0 z1 z3 z4 m = some (rr, rm) → gV X w 0 0 (gR X w (some (.int rr)) rm) 7 16 [(0, .ref z0), (1, .long z1), (3, .int z3), (4, .int z4)] [] m) {x0 : Nat} {x1 : Int64} {x4 : Int32} {y0 : Int32} {y1 : Int32} {m : gM} (h : b_X8_build_51 w.2.2.2.2.1 F k16 x0 x1 x4 y0 y1 m = some (rr, rm)) : gV X w 0 0 (gR X w (some (.int rr)) rm) 7 51 [(0, .ref x0), (1, .long x1), (4, .int x4)] [.int y0, .int y1] m := by
  unfold b_X8_build_51 at h
  refine v_iadd (pc := 51) C 27 rfl ?_
  refine v_topI (fun v1 ev1 => ?_)
  replace h := g_nm h ev1
  refine v_istore_n (pc := 52) (lv' := [(3, .int v1), (0, .ref x0), (1, .long x1), (4, .int x4)]) C 28 rfl rfl (by decide) rfl ?_
  refine v_iincN (pc := 53) C 29 3 (fun v2 => [(4, .int v2), (3, .int v1), (0, .ref x0), (1, .long x1)]) rfl rfl (by decide) (fun _ => rfl) (fun v2 ev2 => ?_)
  replace h := g_nm h ev2
  refine v_goto (pc := 56) C 30 16 rfl (by decide) ?_
  refine v_sub [(0, .ref x0), (1, .long x1), (3, .int v1), (4, .int v2)] [2, 3, 1, 0] rfl ?_
  exact hk16 _ _ _ _ _ h
def b_X8_build_16 (sh : List gS) (F : Nat) (k16 : Nat → Int64 → Int32 → Int32 → gM → Option (Int32 × gM)) (x0 : Nat) (x1 : Int64) (x3 : Int32) (x4 : Int32) (m : gM) : Option (Int32 × gM) :=
  g_if (oB sh x0 8) (if (m.1 x0 15) ≤ x4 then (l_X8_build_62 sh F F x0 x1 x3 0 m) else ((f_X8_has sh F x1 x4 m).bind (fun q5 => nm q5.1 (fun r4 => nm q5.2 (fun m3 => if r4 = 0 then (b_X8_build_51 sh F k16 x0 x1 x4 0 x3 m3) else ((m3.2.2 x0 13).bind (fun t7 => g_if (aB sh t7 .int x4) (b_X8_build_51 sh F k16 x0 x1 x4 ((m3.1 x0 2) - (m3.1 t7 (x4).toNatClampNeg)) x3 m3))))))))
set_option maxRecDepth 100000 in
set_option maxHeartbeats 4000000 in
theorem tb_X8_build_16 {X : gX} {w : gW} {rr : Int32} {rm : gM} (C : gC X w K_X8_build 7 RX8 1) (hr : X.2.2.2.2.2.2.2.2.1.sig.returnType = (some .boolean)) {F : Nat} {k16 : Nat → Int64 → Int32 → Int32 → gM → Option (Int32 × gM)} (hk16 : ∀ (z0 : Nat) (z1 : Int64) (z3 : Int32) (z4 : Int32) (m : gM), k16 z0 z1 z3 z4 m = some (rr, rm) → gV X w 0 0 (gR X w (some (.int rr)) rm) 7 16 [(0, .ref z0), (1, .long z1), (3, .int z3), (4, .int z4)] [] m) {x0 : Nat} {x1 : Int64} {x3 : Int32} {x4 : Int32} {m : gM} (h : b_X8_build_16 w.2.2.2.2.1 F k16 x0 x1 x3 x4 m = some (rr, rm)) : gV X w 0 0 (gR X w (some (.int rr)) rm) 7 16 [(0, .ref x0), (1, .long x1), (3, .int x3), (4, .int x4)] [] m := by
  unfold b_X8_build_16 at h
  refine v_iload (pc := 16) C 9 3 rfl rfl ?_
  refine v_aload_n (pc := 18) C 10 0 rfl rfl rfl ?_
  obtain ⟨o1, h⟩ := g_okk h
  refine v_getI (pc := 19) C 11 rfl lf_ScopeGraphModel_211.get (g_oB o1) rfl ?_
  refine v_icmp_ge (pc := 22) C 12 59 rfl (by decide) (fun c2 => ?_) (fun c2 => ?_)
  · replace h := g_ifT c2 h
    refine v_iconst (pc := 59) C 31 0 rfl (by decide) ?_
    refine v_istore (pc := 60) (lv' := [(4, .int 0), (0, .ref x0), (1, .long x1), (3, .int x3)]) C 32 rfl (by decide) rfl ?_
    refine v_sub [(0, .ref x0), (1, .long x1), (3, .int x3), (4, .int 0)] [1, 2, 3, 0] rfl ?_
    exact tl_X8_build_62 (F := F) C hr _ _ _ _ _ _ h
  · replace h := g_ifF c2 h
    refine v_iload_n (pc := 25) C 13 2 rfl rfl rfl ?_
    refine v_lload_n (pc := 26) C 14 1 rfl rfl rfl ?_
    refine v_iload (pc := 27) C 15 3 rfl rfl ?_
    obtain ⟨⟨r4, m3⟩, qm3, h⟩ := g_bd h
    replace h := g_nm (y := m3) (g_nm (y := r4) h rfl) rfl
    refine v_callS (pc := 29) C 16 rfl mf_X8_has sm_X8_has lm_ScopeGraphModel_351 (c_X8_has C.2.2.2.2.2.2.2.2.2.2.2 qm3) (by decide) rfl (Nat.le_of_ble_eq_true rfl) ⟨Nat.zero_le _, Nat.zero_le _⟩ rfl ?_
    change gV X w 0 0 (gR X w (some (.int rr)) rm) 7 32 [(0, .ref x0), (1, .long x1), (3, .int x3), (4, .int x4)] [.int r4, .int x3] m3
    refine v_if_eq (pc := 32) C 17 50 rfl (by decide) (fun c6 => ?_) (fun c6 => ?_)
    · replace h := g_ifT c6 h
      refine v_iconst (pc := 50) C 26 0 rfl (by decide) ?_
      refine v_sub [(0, .ref x0), (1, .long x1), (4, .int x4)] [0, 1, 3] rfl ?_
      exact tb_X8_build_51 (F := F) C hr hk16 h
    · replace h := g_ifF c6 h
      refine v_aload_n (pc := 35) C 18 0 rfl rfl rfl ?_
      refine v_getI (pc := 36) C 19 rfl lf_ScopeGraphModel_157.get (g_oB o1) rfl ?_
      refine v_aload_n (pc := 39) C 20 0 rfl rfl rfl ?_
      obtain ⟨t7, qt7, h⟩ := g_bd h
      refine v_getR (pc := 40) C 21 rfl lf_ScopeGraphModel_35 (g_oB o1) rfl qt7 ?_
      refine v_iload (pc := 43) C 22 3 rfl rfl ?_
      obtain ⟨b8, h⟩ := g_okk h
      refine v_iald' (pc := 45) C 23 rfl b8 ?_
      refine v_isub (pc := 46) C 24 rfl ?_
      refine v_goto (pc := 47) C 25 51 rfl (by decide) ?_
      refine v_sub [(0, .ref x0), (1, .long x1), (4, .int x4)] [0, 1, 3] rfl ?_
      exact tb_X8_build_51 (F := F) C hr hk16 h
def l_X8_build_16 (sh : List gS) (F : Nat) : Nat → Nat → Int64 → Int32 → Int32 → gM → Option (Int32 × gM)
  | 0 => fun _ _ _ _ _ => none
  | n + 1 => fun x0 x1 x3 x4 m => b_X8_build_16 sh F (l_X8_build_16 sh F n) x0 x1 x3 x4 m
theorem tl_X8_build_16 {X : gX} {w : gW} {rr : Int32} {rm : gM} (C : gC X w K_X8_build 7 RX8 1) (hr : X.2.2.2.2.2.2.2.2.1.sig.returnType = (some .boolean)) {F : Nat} : ∀ (n : Nat) (x0 : Nat) (x1 : Int64) (x3 : Int32) (x4 : Int32) (m : gM), l_X8_build_16 w.2.2.2.2.1 F n x0 x1 x3 x4 m = some (rr, rm) → gV X w 0 0 (gR X w (some (.int rr)) rm) 7 16 [(0, .ref x0), (1, .long x1), (3, .int x3), (4, .int x4)] [] m := by
  intro n
  induction n with
  | zero => intro x0 x1 x3 x4 m h; cases h
  | succ n ih => intro x0 x1 x3 x4 m h; exact tb_X8_build_16 (F := F) C hr ih h
def f_X8_build (sh : List gS) (F : Nat) (x0 : Nat) (x1 : Int64) (m : gM) : Option (Int32 × gM) :=
  g_if (oB sh x0 8) (nm (gsI m x0 73 (m.1 x0 7)) (fun m2 => nm (m2.1 x0 4) (fun v3 => l_X8_build_16 sh F F x0 x1 v3 0 m2)))
set_option maxRecDepth 100000 in
set_option maxHeartbeats 4000000 in
theorem tf_X8_build {X : gX} {w : gW} {rr : Int32} {rm : gM} (C : gC X w K_X8_build 7 RX8 1) (hr : X.2.2.2.2.2.2.2.2.1.sig.returnType = (some .boolean)) {F : Nat} {x0 : Nat} {x1 : Int64} {m : gM} (h : f_X8_build w.2.2.2.2.1 F x0 x1 m = some (rr, rm)) : gV X w 0 0 (gR X w (some (.int rr)) rm) 7 0 [(0, .ref x0), (1, .long x1)] [] m := by
  unfold f_X8_build at h
  refine v_aload_n (pc := 0) C 0 0 rfl rfl rfl ?_
  refine v_aload_n (pc := 1) C 1 0 rfl rfl rfl ?_
  obtain ⟨o1, h⟩ := g_okk h
  refine v_getI (pc := 2) C 2 rfl lf_ScopeGraphModel_168.get (g_oB o1) rfl ?_
  refine v_putI (pc := 5) C 3 rfl lf_ScopeGraphModel_386 (g_oB o1) rfl ?_
  refine v_topM (fun m2 em2 => ?_)
  replace h := g_nm h em2
  refine v_aload_n (pc := 8) C 4 0 rfl rfl rfl ?_
  refine v_getI (pc := 9) C 5 rfl lf_ScopeGraphModel_304.get (g_oB o1) rfl ?_
  refine v_topI (fun v3 ev3 => ?_)
  replace h := g_nm h ev3
  refine v_istore_n (pc := 12) (lv' := [(3, .int v3), (0, .ref x0), (1, .long x1)]) C 6 rfl rfl (by decide) rfl ?_
  refine v_iconst (pc := 13) C 7 0 rfl (by decide) ?_
  refine v_istore (pc := 14) (lv' := [(4, .int 0), (3, .int v3), (0, .ref x0), (1, .long x1)]) C 8 rfl (by decide) rfl ?_
  refine v_sub [(0, .ref x0), (1, .long x1), (3, .int v3), (4, .int 0)] [2, 3, 1, 0] rfl ?_
  exact tl_X8_build_16 (F := F) C hr _ _ _ _ _ _ h
theorem c_X8_build {l : Launch} {w : gW} {rr : Int32} {rm : gM} (hJ : gJok w) {F : Nat} {x0 : Nat} {x1 : Int64} {m : gM} (h : f_X8_build w.2.2.2.2.1 F x0 x1 m = some (rr, rm)) : gMet l 1 yX8_build cX8_build 7 (some .boolean) w [.ref x0, .long x1] m (some (.int rr)) rm :=
  gMet.of hJ mf_X8_build dk_X8_build (Nat.le_of_ble_eq_true rfl) (fun X _ C hr => tf_X8_build (F := F) C hr h)
def b_X8_rename_345 (sh : List gS) (F : Nat) (x0 : Nat) (x2 : Int64) (x5 : Int32) (x6 : Int32) (m : gM) : Option (Int32 × gM) :=
  g_if (oB sh x0 8) ((f_X8_nameAll sh F x0 m).bind (fun m2 => if x6 = 0 then (some ((-3), m2)) else ((f_X8_build sh F x0 x2 m2).bind (fun q7 => nm q7.1 (fun r6 => nm q7.2 (fun m5 => if r6 = 0 then (some ((-4), m5)) else ((f_X8_readAll sh F x0 m5).bind (fun q11 => nm q11.1 (fun r10 => nm q11.2 (fun m9 => nm (gsI m9 x0 2 0) (fun m12 => nm (gsI m12 x0 7 (m12.1 x0 73)) (fun m13 => (f_X8_takeText sh F x0 m13).bind (fun m14 => some (x5, m14))))))))))))))
set_option maxRecDepth 100000 in
set_option maxHeartbeats 4000000 in
theorem tb_X8_rename_345 {X : gX} {w : gW} {rr : Int32} {rm : gM} (C : gC X w K_X8_rename 8 RX8 6) (hr : X.2.2.2.2.2.2.2.2.1.sig.returnType = (some .int)) {F : Nat} {x0 : Nat} {x2 : Int64} {x5 : Int32} {x6 : Int32} {m : gM} (h : b_X8_rename_345 w.2.2.2.2.1 F x0 x2 x5 x6 m = some (rr, rm)) : gV X w 0 0 (gR X w (some (.int rr)) rm) 8 345 [(0, .ref x0), (2, .long x2), (5, .int x5), (6, .int x6)] [] m := by
  unfold b_X8_rename_345 at h
  refine v_aload_n (pc := 345) C 173 0 rfl rfl rfl ?_
  obtain ⟨o1, h⟩ := g_okk h
  obtain ⟨m2, qm2, h⟩ := g_bd h
  refine v_callV (pc := 346) C 174 rfl mf_X8_nameAll clX8 rfl im_X8_nameAll lm_ScopeGraphModel_307 (c_X8_nameAll C.2.2.2.2.2.2.2.2.2.2.2 qm2) (by decide) rfl (g_oB o1) (Nat.le_of_ble_eq_true rfl) ⟨Nat.zero_le _, Nat.zero_le _⟩ rfl ?_
  change gV X w 0 0 (gR X w (some (.int rr)) rm) 8 349 [(0, .ref x0), (2, .long x2), (5, .int x5), (6, .int x6)] [] m2
  refine v_iload (pc := 349) C 175 3 rfl rfl ?_
  refine v_if_ne (pc := 351) C 176 357 rfl (by decide) (fun c4 => ?_) (fun c4 => ?_)
  · replace h := g_ifF c4 h
    refine v_aload_n (pc := 357) C 179 0 rfl rfl rfl ?_
    refine v_lload_n (pc := 358) C 180 1 rfl rfl rfl ?_
    obtain ⟨⟨r6, m5⟩, qm5, h⟩ := g_bd h
    replace h := g_nm (y := m5) (g_nm (y := r6) h rfl) rfl
    refine v_callV (pc := 359) C 181 rfl mf_X8_build clX8 rfl im_X8_build lm_ScopeGraphModel_382 (c_X8_build C.2.2.2.2.2.2.2.2.2.2.2 qm5) (by decide) rfl (g_oB o1) (Nat.le_of_ble_eq_true rfl) ⟨Nat.zero_le _, Nat.zero_le _⟩ rfl ?_
    change gV X w 0 0 (gR X w (some (.int rr)) rm) 8 362 [(0, .ref x0), (2, .long x2), (5, .int x5), (6, .int x6)] [.int r6] m5
    refine v_if_ne (pc := 362) C 182 368 rfl (by decide) (fun c8 => ?_) (fun c8 => ?_)
    · replace h := g_ifF c8 h
      refine v_aload_n (pc := 368) C 185 0 rfl rfl rfl ?_
      obtain ⟨⟨r10, m9⟩, qm9, h⟩ := g_bd h
      replace h := g_nm (y := m9) (g_nm (y := r10) h rfl) rfl
      refine v_callV (pc := 369) C 186 rfl mf_X8_readAll clX8 rfl im_X8_readAll lm_ScopeGraphModel_295 (c_X8_readAll C.2.2.2.2.2.2.2.2.2.2.2 qm9) (by decide) rfl (g_oB o1) (Nat.le_of_ble_eq_true rfl) ⟨Nat.zero_le _, Nat.zero_le _⟩ rfl ?_
      change gV X w 0 0 (gR X w (some (.int rr)) rm) 8 372 [(0, .ref x0), (2, .long x2), (5, .int x5), (6, .int x6)] [.int r10] m9
      refine v_istore (pc := 372) (lv' := [(7, .int r10), (0, .ref x0), (2, .long x2), (5, .int x5), (6, .int x6)]) C 187 rfl (by decide) rfl ?_
      refine v_aload_n (pc := 374) C 188 1 rfl rfl rfl ?_
      refine v_iconst (pc := 375) C 189 0 rfl (by decide) ?_
      refine v_putI (pc := 376) C 190 rfl lf_ScopeGraphModel_157 (g_oB o1) rfl ?_
      refine v_topM (fun m12 em12 => ?_)
      replace h := g_nm h em12
      refine v_aload_n (pc := 379) C 191 1 rfl rfl rfl ?_
      refine v_aload_n (pc := 380) C 192 1 rfl rfl rfl ?_
      refine v_getI (pc := 381) C 193 rfl lf_ScopeGraphModel_386.get (g_oB o1) rfl ?_
      refine v_putI (pc := 384) C 194 rfl lf_ScopeGraphModel_168 (g_oB o1) rfl ?_
      refine v_topM (fun m13 em13 => ?_)
      replace h := g_nm h em13
      refine v_aload_n (pc := 387) C 195 1 rfl rfl rfl ?_
      obtain ⟨m14, qm14, h⟩ := g_bd h
      refine v_callV (pc := 388) C 196 rfl mf_X8_takeText clX8 rfl im_X8_takeText lm_ScopeGraphModel_301 (c_X8_takeText C.2.2.2.2.2.2.2.2.2.2.2 qm14) (by decide) rfl (g_oB o1) (Nat.le_of_ble_eq_true rfl) ⟨Nat.zero_le _, Nat.zero_le _⟩ rfl ?_
      change gV X w 0 0 (gR X w (some (.int rr)) rm) 8 391 [(7, .int r10), (0, .ref x0), (2, .long x2), (5, .int x5), (6, .int x6)] [] m14
      refine v_iload (pc := 391) C 197 3 rfl rfl ?_
      obtain ⟨rfl, rfl⟩ := g_so h
      exact v_iret (pc := 393) C 198 rfl hr
    · replace h := g_ifT c8 h
      refine v_bipush (pc := 365) C 183 (-4) rfl (by decide) ?_
      obtain ⟨rfl, rfl⟩ := g_so h
      exact v_iret (pc := 367) C 184 rfl hr
  · replace h := g_ifT c4 h
    refine v_bipush (pc := 354) C 177 (-3) rfl (by decide) ?_
    obtain ⟨rfl, rfl⟩ := g_so h
    exact v_iret (pc := 356) C 178 rfl hr
def b_X8_rename_337 (sh : List gS) (F : Nat) (k297 : Nat → Int64 → Int32 → Int32 → Int32 → gM → Option (Int32 × gM)) (x0 : Nat) (x2 : Int64) (x5 : Int32) (x7 : Int32) (y0 : Int32) (m : gM) : Option (Int32 × gM) :=
  nm (x7 + Int32.ofInt 1) (fun v1 => k297 x0 x2 x5 y0 v1 m)
set_option maxRecDepth 100000 in
set_option maxHeartbeats 4000000 in
theorem tb_X8_rename_337 {X : gX} {w : gW} {rr : Int32} {rm : gM} (C : gC X w K_X8_rename 8 RX8 6) (hr : X.2.2.2.2.2.2.2.2.1.sig.returnType = (some .int)) {F : Nat} {k297 : Nat → Int64 → Int32 → Int32 → Int32 → gM → Option (Int32 × gM)} (hk297 : ∀ (z0 : Nat) (z2 : Int64) (z5 : Int32) (z6 : Int32) (z7 : Int32) (m : gM), k297 z0 z2 z5 z6 z7 m = some (rr, rm) → gV X w 0 0 (gR X w (some (.int rr)) rm) 8 297 [(0, .ref z0), (2, .long z2), (5, .int z5), (6, .int z6), (7, .int z7)] [] m) {x0 : Nat} {x2 : Int64} {x5 : Int32} {x7 : Int32} {y0 : Int32} {m : gM} (h : b_X8_rename_337 w.2.2.2.2.1 F k297 x0 x2 x5 x7 y0 m = some (rr, rm)) : gV X w 0 0 (gR X w (some (.int rr)) rm) 8 337 [(0, .ref x0), (2, .long x2), (5, .int x5), (7, .int x7)] [.int y0] m := by
  unfold b_X8_rename_337 at h
  refine v_istore (pc := 337) (lv' := [(6, .int y0), (0, .ref x0), (2, .long x2), (5, .int x5), (7, .int x7)]) C 170 rfl (by decide) rfl ?_
  refine v_iincN (pc := 339) C 171 4 (fun v1 => [(7, .int v1), (6, .int y0), (0, .ref x0), (2, .long x2), (5, .int x5)]) rfl rfl (by decide) (fun _ => rfl) (fun v1 ev1 => ?_)
  replace h := g_nm h ev1
  refine v_goto (pc := 342) C 172 297 rfl (by decide) ?_
  refine v_sub [(0, .ref x0), (2, .long x2), (5, .int x5), (6, .int y0), (7, .int v1)] [2, 3, 4, 1, 0] rfl ?_
  exact hk297 _ _ _ _ _ _ h
def b_X8_rename_297 (sh : List gS) (F : Nat) (k297 : Nat → Int64 → Int32 → Int32 → Int32 → gM → Option (Int32 × gM)) (x0 : Nat) (x2 : Int64) (x5 : Int32) (x6 : Int32) (x7 : Int32) (m : gM) : Option (Int32 × gM) :=
  g_if (oB sh x0 8) (if (m.1 x0 20) ≤ x7 then (b_X8_rename_345 sh F x0 x2 x5 x6 m) else (if x6 = 0 then (b_X8_rename_345 sh F x0 x2 x5 x6 m) else ((f_X8_mean sh F x0 x7 m).bind (fun m4 => (m4.2.2 x0 71).bind (fun t6 => g_if (aB sh t6 .long x7) (if (m4.2.1 x0 65) = (m4.2.1 t6 (x7).toNatClampNeg) then (b_X8_rename_337 sh F k297 x0 x2 x5 x7 1 m4) else (b_X8_rename_337 sh F k297 x0 x2 x5 x7 0 m4)))))))
set_option maxRecDepth 100000 in
set_option maxHeartbeats 4000000 in
theorem tb_X8_rename_297 {X : gX} {w : gW} {rr : Int32} {rm : gM} (C : gC X w K_X8_rename 8 RX8 6) (hr : X.2.2.2.2.2.2.2.2.1.sig.returnType = (some .int)) {F : Nat} {k297 : Nat → Int64 → Int32 → Int32 → Int32 → gM → Option (Int32 × gM)} (hk297 : ∀ (z0 : Nat) (z2 : Int64) (z5 : Int32) (z6 : Int32) (z7 : Int32) (m : gM), k297 z0 z2 z5 z6 z7 m = some (rr, rm) → gV X w 0 0 (gR X w (some (.int rr)) rm) 8 297 [(0, .ref z0), (2, .long z2), (5, .int z5), (6, .int z6), (7, .int z7)] [] m) {x0 : Nat} {x2 : Int64} {x5 : Int32} {x6 : Int32} {x7 : Int32} {m : gM} (h : b_X8_rename_297 w.2.2.2.2.1 F k297 x0 x2 x5 x6 x7 m = some (rr, rm)) : gV X w 0 0 (gR X w (some (.int rr)) rm) 8 297 [(0, .ref x0), (2, .long x2), (5, .int x5), (6, .int x6), (7, .int x7)] [] m := by
  unfold b_X8_rename_297 at h
  refine v_iload (pc := 297) C 150 4 rfl rfl ?_
  refine v_aload_n (pc := 299) C 151 0 rfl rfl rfl ?_
  obtain ⟨o1, h⟩ := g_okk h
  refine v_getI (pc := 300) C 152 rfl lf_ScopeGraphModel_223.get (g_oB o1) rfl ?_
  refine v_icmp_ge (pc := 303) C 153 345 rfl (by decide) (fun c2 => ?_) (fun c2 => ?_)
  · replace h := g_ifT c2 h
    refine v_sub [(0, .ref x0), (2, .long x2), (5, .int x5), (6, .int x6)] [0, 1, 2, 3] rfl ?_
    exact tb_X8_rename_345 (F := F) C hr h
  · replace h := g_ifF c2 h
    refine v_iload (pc := 306) C 154 3 rfl rfl ?_
    refine v_if_eq (pc := 308) C 155 345 rfl (by decide) (fun c3 => ?_) (fun c3 => ?_)
    · replace h := g_ifT c3 h
      refine v_sub [(0, .ref x0), (2, .long x2), (5, .int x5), (6, .int x6)] [0, 1, 2, 3] rfl ?_
      exact tb_X8_rename_345 (F := F) C hr h
    · replace h := g_ifF c3 h
      refine v_aload_n (pc := 311) C 156 0 rfl rfl rfl ?_
      refine v_iload (pc := 312) C 157 4 rfl rfl ?_
      obtain ⟨m4, qm4, h⟩ := g_bd h
      refine v_callV (pc := 314) C 158 rfl mf_X8_mean clX8 rfl im_X8_mean lm_ScopeGraphModel_365 (c_X8_mean C.2.2.2.2.2.2.2.2.2.2.2 qm4) (by decide) rfl (g_oB o1) (Nat.le_of_ble_eq_true rfl) ⟨Nat.zero_le _, Nat.zero_le _⟩ rfl ?_
      change gV X w 0 0 (gR X w (some (.int rr)) rm) 8 317 [(0, .ref x0), (2, .long x2), (5, .int x5), (6, .int x6), (7, .int x7)] [] m4
      refine v_aload_n (pc := 317) C 159 0 rfl rfl rfl ?_
      refine v_getL (pc := 318) C 160 rfl lf_ScopeGraphModel_324.get (g_oB o1) rfl ?_
      refine v_aload_n (pc := 321) C 161 0 rfl rfl rfl ?_
      obtain ⟨t6, qt6, h⟩ := g_bd h
      refine v_getR (pc := 322) C 162 rfl lf_ScopeGraphModel_148 (g_oB o1) rfl qt6 ?_
      refine v_iload (pc := 325) C 163 4 rfl rfl ?_
      obtain ⟨b7, h⟩ := g_okk h
      refine v_lald' (pc := 327) C 164 rfl b7 ?_
      refine v_lcmp (pc := 328) C 165 rfl ?_
      refine v_lif_ne (pc := 329) C 166 336 rfl (by decide) (fun c8 => ?_) (fun c8 => ?_)
      · replace h := g_ifF c8 h
        refine v_iconst (pc := 336) C 169 0 rfl (by decide) ?_
        refine v_sub [(0, .ref x0), (2, .long x2), (5, .int x5), (7, .int x7)] [0, 1, 2, 4] rfl ?_
        exact tb_X8_rename_337 (F := F) C hr hk297 h
      · replace h := g_ifT c8 h
        refine v_iconst (pc := 332) C 167 1 rfl (by decide) ?_
        refine v_goto (pc := 333) C 168 337 rfl (by decide) ?_
        refine v_sub [(0, .ref x0), (2, .long x2), (5, .int x5), (7, .int x7)] [0, 1, 2, 4] rfl ?_
        exact tb_X8_rename_337 (F := F) C hr hk297 h
def l_X8_rename_297 (sh : List gS) (F : Nat) : Nat → Nat → Int64 → Int32 → Int32 → Int32 → gM → Option (Int32 × gM)
  | 0 => fun _ _ _ _ _ _ => none
  | n + 1 => fun x0 x2 x5 x6 x7 m => b_X8_rename_297 sh F (l_X8_rename_297 sh F n) x0 x2 x5 x6 x7 m
theorem tl_X8_rename_297 {X : gX} {w : gW} {rr : Int32} {rm : gM} (C : gC X w K_X8_rename 8 RX8 6) (hr : X.2.2.2.2.2.2.2.2.1.sig.returnType = (some .int)) {F : Nat} : ∀ (n : Nat) (x0 : Nat) (x2 : Int64) (x5 : Int32) (x6 : Int32) (x7 : Int32) (m : gM), l_X8_rename_297 w.2.2.2.2.1 F n x0 x2 x5 x6 x7 m = some (rr, rm) → gV X w 0 0 (gR X w (some (.int rr)) rm) 8 297 [(0, .ref x0), (2, .long x2), (5, .int x5), (6, .int x6), (7, .int x7)] [] m := by
  intro n
  induction n with
  | zero => intro x0 x2 x5 x6 x7 m h; cases h
  | succ n ih => intro x0 x2 x5 x6 x7 m h; exact tb_X8_rename_297 (F := F) C hr ih h
def b_X8_rename_285 (sh : List gS) (F : Nat) (k254 : Nat → Int64 → Int32 → Int32 → Int32 → gM → Option (Int32 × gM)) (x0 : Nat) (x2 : Int64) (x4 : Int32) (x5 : Int32) (x6 : Int32) (m : gM) : Option (Int32 × gM) :=
  nm (x6 + Int32.ofInt 1) (fun v1 => k254 x0 x2 x4 x5 v1 m)
set_option maxRecDepth 100000 in
set_option maxHeartbeats 4000000 in
theorem tb_X8_rename_285 {X : gX} {w : gW} {rr : Int32} {rm : gM} (C : gC X w K_X8_rename 8 RX8 6) (hr : X.2.2.2.2.2.2.2.2.1.sig.returnType = (some .int)) {F : Nat} {k254 : Nat → Int64 → Int32 → Int32 → Int32 → gM → Option (Int32 × gM)} (hk254 : ∀ (z0 : Nat) (z2 : Int64) (z4 : Int32) (z5 : Int32) (z6 : Int32) (m : gM), k254 z0 z2 z4 z5 z6 m = some (rr, rm) → gV X w 0 0 (gR X w (some (.int rr)) rm) 8 254 [(0, .ref z0), (2, .long z2), (4, .int z4), (5, .int z5), (6, .int z6)] [] m) {x0 : Nat} {x2 : Int64} {x4 : Int32} {x5 : Int32} {x6 : Int32} {m : gM} (h : b_X8_rename_285 w.2.2.2.2.1 F k254 x0 x2 x4 x5 x6 m = some (rr, rm)) : gV X w 0 0 (gR X w (some (.int rr)) rm) 8 285 [(0, .ref x0), (2, .long x2), (4, .int x4), (5, .int x5), (6, .int x6)] [] m := by
  unfold b_X8_rename_285 at h
  refine v_iincN (pc := 285) C 144 4 (fun v1 => [(6, .int v1), (0, .ref x0), (2, .long x2), (4, .int x4), (5, .int x5)]) rfl rfl (by decide) (fun _ => rfl) (fun v1 ev1 => ?_)
  replace h := g_nm h ev1
  refine v_goto (pc := 288) C 145 254 rfl (by decide) ?_
  refine v_sub [(0, .ref x0), (2, .long x2), (4, .int x4), (5, .int x5), (6, .int v1)] [1, 2, 3, 4, 0] rfl ?_
  exact hk254 _ _ _ _ _ _ h
def b_X8_rename_254 (sh : List gS) (F : Nat) (k254 : Nat → Int64 → Int32 → Int32 → Int32 → gM → Option (Int32 × gM)) (x0 : Nat) (x2 : Int64) (x4 : Int32) (x5 : Int32) (x6 : Int32) (m : gM) : Option (Int32 × gM) :=
  g_if (oB sh x0 8) (if (m.1 x0 20) ≤ x6 then (l_X8_rename_297 sh F F x0 x2 x5 1 0 m) else ((m.2.2 x0 72).bind (fun t3 => g_if (aB sh t3 .boolean x6) (if (m.1 t3 (x6).toNatClampNeg) = 0 then (b_X8_rename_285 sh F k254 x0 x2 x4 x5 x6 m) else ((m.2.2 x0 53).bind (fun t6 => g_if (aB sh t6 .int x6) (nm (gsI m t6 (x6).toNatClampNeg x4) (fun m8 => nm (x5 + Int32.ofInt 1) (fun v9 => b_X8_rename_285 sh F k254 x0 x2 x4 v9 x6 m8)))))))))
set_option maxRecDepth 100000 in
set_option maxHeartbeats 4000000 in
theorem tb_X8_rename_254 {X : gX} {w : gW} {rr : Int32} {rm : gM} (C : gC X w K_X8_rename 8 RX8 6) (hr : X.2.2.2.2.2.2.2.2.1.sig.returnType = (some .int)) {F : Nat} {k254 : Nat → Int64 → Int32 → Int32 → Int32 → gM → Option (Int32 × gM)} (hk254 : ∀ (z0 : Nat) (z2 : Int64) (z4 : Int32) (z5 : Int32) (z6 : Int32) (m : gM), k254 z0 z2 z4 z5 z6 m = some (rr, rm) → gV X w 0 0 (gR X w (some (.int rr)) rm) 8 254 [(0, .ref z0), (2, .long z2), (4, .int z4), (5, .int z5), (6, .int z6)] [] m) {x0 : Nat} {x2 : Int64} {x4 : Int32} {x5 : Int32} {x6 : Int32} {m : gM} (h : b_X8_rename_254 w.2.2.2.2.1 F k254 x0 x2 x4 x5 x6 m = some (rr, rm)) : gV X w 0 0 (gR X w (some (.int rr)) rm) 8 254 [(0, .ref x0), (2, .long x2), (4, .int x4), (5, .int x5), (6, .int x6)] [] m := by
  unfold b_X8_rename_254 at h
  refine v_iload (pc := 254) C 129 4 rfl rfl ?_
  refine v_aload_n (pc := 256) C 130 0 rfl rfl rfl ?_
  obtain ⟨o1, h⟩ := g_okk h
  refine v_getI (pc := 257) C 131 rfl lf_ScopeGraphModel_223.get (g_oB o1) rfl ?_
  refine v_icmp_ge (pc := 260) C 132 291 rfl (by decide) (fun c2 => ?_) (fun c2 => ?_)
  · replace h := g_ifT c2 h
    refine v_iconst (pc := 291) C 146 1 rfl (by decide) ?_
    refine v_istore (pc := 292) (lv' := [(6, .int 1), (0, .ref x0), (2, .long x2), (4, .int x4), (5, .int x5)]) C 147 rfl (by decide) rfl ?_
    refine v_iconst (pc := 294) C 148 0 rfl (by decide) ?_
    refine v_istore (pc := 295) (lv' := [(7, .int 0), (6, .int 1), (0, .ref x0), (2, .long x2), (4, .int x4), (5, .int x5)]) C 149 rfl (by decide) rfl ?_
    refine v_sub [(0, .ref x0), (2, .long x2), (5, .int x5), (6, .int 1), (7, .int 0)] [2, 3, 5, 1, 0] rfl ?_
    exact tl_X8_rename_297 (F := F) C hr _ _ _ _ _ _ _ h
  · replace h := g_ifF c2 h
    refine v_aload_n (pc := 263) C 133 0 rfl rfl rfl ?_
    obtain ⟨t3, qt3, h⟩ := g_bd h
    refine v_getR (pc := 264) C 134 rfl lf_ScopeGraphModel_151 (g_oB o1) rfl qt3 ?_
    refine v_iload (pc := 267) C 135 4 rfl rfl ?_
    obtain ⟨b4, h⟩ := g_okk h
    refine v_zald' (pc := 269) C 136 rfl b4 ?_
    refine v_if_eq (pc := 270) C 137 285 rfl (by decide) (fun c5 => ?_) (fun c5 => ?_)
    · replace h := g_ifT c5 h
      refine v_sub [(0, .ref x0), (2, .long x2), (4, .int x4), (5, .int x5), (6, .int x6)] [0, 1, 2, 3, 4] rfl ?_
      exact tb_X8_rename_285 (F := F) C hr hk254 h
    · replace h := g_ifF c5 h
      refine v_aload_n (pc := 273) C 138 0 rfl rfl rfl ?_
      obtain ⟨t6, qt6, h⟩ := g_bd h
      refine v_getR (pc := 274) C 139 rfl lf_ScopeGraphModel_104 (g_oB o1) rfl qt6 ?_
      refine v_iload (pc := 277) C 140 4 rfl rfl ?_
      refine v_iload (pc := 279) C 141 2 rfl rfl ?_
      obtain ⟨b7, h⟩ := g_okk h
      refine v_iast' (pc := 281) C 142 rfl b7 ?_
      refine v_topM (fun m8 em8 => ?_)
      replace h := g_nm h em8
      refine v_iincN (pc := 282) C 143 3 (fun v9 => [(5, .int v9), (0, .ref x0), (2, .long x2), (4, .int x4), (6, .int x6)]) rfl rfl (by decide) (fun _ => rfl) (fun v9 ev9 => ?_)
      replace h := g_nm h ev9
      refine v_sub [(0, .ref x0), (2, .long x2), (4, .int x4), (5, .int v9), (6, .int x6)] [1, 2, 3, 0, 4] rfl ?_
      exact tb_X8_rename_285 (F := F) C hr hk254 h
def l_X8_rename_254 (sh : List gS) (F : Nat) : Nat → Nat → Int64 → Int32 → Int32 → Int32 → gM → Option (Int32 × gM)
  | 0 => fun _ _ _ _ _ _ => none
  | n + 1 => fun x0 x2 x4 x5 x6 m => b_X8_rename_254 sh F (l_X8_rename_254 sh F n) x0 x2 x4 x5 x6 m
theorem tl_X8_rename_254 {X : gX} {w : gW} {rr : Int32} {rm : gM} (C : gC X w K_X8_rename 8 RX8 6) (hr : X.2.2.2.2.2.2.2.2.1.sig.returnType = (some .int)) {F : Nat} : ∀ (n : Nat) (x0 : Nat) (x2 : Int64) (x4 : Int32) (x5 : Int32) (x6 : Int32) (m : gM), l_X8_rename_254 w.2.2.2.2.1 F n x0 x2 x4 x5 x6 m = some (rr, rm) → gV X w 0 0 (gR X w (some (.int rr)) rm) 8 254 [(0, .ref x0), (2, .long x2), (4, .int x4), (5, .int x5), (6, .int x6)] [] m := by
  intro n
  induction n with
  | zero => intro x0 x2 x4 x5 x6 m h; cases h
  | succ n ih => intro x0 x2 x4 x5 x6 m h; exact tb_X8_rename_254 (F := F) C hr ih h
def b_X8_rename_245 (sh : List gS) (F : Nat) (k215 : Nat → Int64 → Int32 → Int32 → Int32 → gM → Option (Int32 × gM)) (x0 : Nat) (x2 : Int64) (x4 : Int32) (x5 : Int32) (x6 : Int32) (m : gM) : Option (Int32 × gM) :=
  nm (x6 + Int32.ofInt 1) (fun v1 => k215 x0 x2 x4 x5 v1 m)
set_option maxRecDepth 100000 in
set_option maxHeartbeats 4000000 in
theorem tb_X8_rename_245 {X : gX} {w : gW} {rr : Int32} {rm : gM} (C : gC X w K_X8_rename 8 RX8 6) (hr : X.2.2.2.2.2.2.2.2.1.sig.returnType = (some .int)) {F : Nat} {k215 : Nat → Int64 → Int32 → Int32 → Int32 → gM → Option (Int32 × gM)} (hk215 : ∀ (z0 : Nat) (z2 : Int64) (z4 : Int32) (z5 : Int32) (z6 : Int32) (m : gM), k215 z0 z2 z4 z5 z6 m = some (rr, rm) → gV X w 0 0 (gR X w (some (.int rr)) rm) 8 215 [(0, .ref z0), (2, .long z2), (4, .int z4), (5, .int z5), (6, .int z6)] [] m) {x0 : Nat} {x2 : Int64} {x4 : Int32} {x5 : Int32} {x6 : Int32} {m : gM} (h : b_X8_rename_245 w.2.2.2.2.1 F k215 x0 x2 x4 x5 x6 m = some (rr, rm)) : gV X w 0 0 (gR X w (some (.int rr)) rm) 8 245 [(0, .ref x0), (2, .long x2), (4, .int x4), (5, .int x5), (6, .int x6)] [] m := by
  unfold b_X8_rename_245 at h
  refine v_iincN (pc := 245) C 125 4 (fun v1 => [(6, .int v1), (0, .ref x0), (2, .long x2), (4, .int x4), (5, .int x5)]) rfl rfl (by decide) (fun _ => rfl) (fun v1 ev1 => ?_)
  replace h := g_nm h ev1
  refine v_goto (pc := 248) C 126 215 rfl (by decide) ?_
  refine v_sub [(0, .ref x0), (2, .long x2), (4, .int x4), (5, .int x5), (6, .int v1)] [1, 2, 3, 4, 0] rfl ?_
  exact hk215 _ _ _ _ _ _ h
def b_X8_rename_215 (sh : List gS) (F : Nat) (k215 : Nat → Int64 → Int32 → Int32 → Int32 → gM → Option (Int32 × gM)) (x0 : Nat) (x2 : Int64) (x4 : Int32) (x5 : Int32) (x6 : Int32) (m : gM) : Option (Int32 × gM) :=
  g_if (oB sh x0 8) (if (m.1 x0 15) ≤ x6 then (l_X8_rename_254 sh F F x0 x2 x4 x5 0 m) else ((f_X8_has sh F x2 x6 m).bind (fun q5 => nm q5.1 (fun r4 => nm q5.2 (fun m3 => if r4 = 0 then (b_X8_rename_245 sh F k215 x0 x2 x4 x5 x6 m3) else ((m3.2.2 x0 52).bind (fun t7 => g_if (aB sh t7 .int x6) (nm (gsI m3 t7 (x6).toNatClampNeg x4) (fun m9 => nm (x5 + Int32.ofInt 1) (fun v10 => b_X8_rename_245 sh F k215 x0 x2 x4 v10 x6 m9))))))))))
set_option maxRecDepth 100000 in
set_option maxHeartbeats 4000000 in
theorem tb_X8_rename_215 {X : gX} {w : gW} {rr : Int32} {rm : gM} (C : gC X w K_X8_rename 8 RX8 6) (hr : X.2.2.2.2.2.2.2.2.1.sig.returnType = (some .int)) {F : Nat} {k215 : Nat → Int64 → Int32 → Int32 → Int32 → gM → Option (Int32 × gM)} (hk215 : ∀ (z0 : Nat) (z2 : Int64) (z4 : Int32) (z5 : Int32) (z6 : Int32) (m : gM), k215 z0 z2 z4 z5 z6 m = some (rr, rm) → gV X w 0 0 (gR X w (some (.int rr)) rm) 8 215 [(0, .ref z0), (2, .long z2), (4, .int z4), (5, .int z5), (6, .int z6)] [] m) {x0 : Nat} {x2 : Int64} {x4 : Int32} {x5 : Int32} {x6 : Int32} {m : gM} (h : b_X8_rename_215 w.2.2.2.2.1 F k215 x0 x2 x4 x5 x6 m = some (rr, rm)) : gV X w 0 0 (gR X w (some (.int rr)) rm) 8 215 [(0, .ref x0), (2, .long x2), (4, .int x4), (5, .int x5), (6, .int x6)] [] m := by
  unfold b_X8_rename_215 at h
  refine v_iload (pc := 215) C 111 4 rfl rfl ?_
  refine v_aload_n (pc := 217) C 112 0 rfl rfl rfl ?_
  obtain ⟨o1, h⟩ := g_okk h
  refine v_getI (pc := 218) C 113 rfl lf_ScopeGraphModel_211.get (g_oB o1) rfl ?_
  refine v_icmp_ge (pc := 221) C 114 251 rfl (by decide) (fun c2 => ?_) (fun c2 => ?_)
  · replace h := g_ifT c2 h
    refine v_iconst (pc := 251) C 127 0 rfl (by decide) ?_
    refine v_istore (pc := 252) (lv' := [(6, .int 0), (0, .ref x0), (2, .long x2), (4, .int x4), (5, .int x5)]) C 128 rfl (by decide) rfl ?_
    refine v_sub [(0, .ref x0), (2, .long x2), (4, .int x4), (5, .int x5), (6, .int 0)] [1, 2, 3, 4, 0] rfl ?_
    exact tl_X8_rename_254 (F := F) C hr _ _ _ _ _ _ _ h
  · replace h := g_ifF c2 h
    refine v_lload_n (pc := 224) C 115 1 rfl rfl rfl ?_
    refine v_iload (pc := 225) C 116 4 rfl rfl ?_
    obtain ⟨⟨r4, m3⟩, qm3, h⟩ := g_bd h
    replace h := g_nm (y := m3) (g_nm (y := r4) h rfl) rfl
    refine v_callS (pc := 227) C 117 rfl mf_X8_has sm_X8_has lm_ScopeGraphModel_351 (c_X8_has C.2.2.2.2.2.2.2.2.2.2.2 qm3) (by decide) rfl (Nat.le_of_ble_eq_true rfl) ⟨Nat.zero_le _, Nat.zero_le _⟩ rfl ?_
    change gV X w 0 0 (gR X w (some (.int rr)) rm) 8 230 [(0, .ref x0), (2, .long x2), (4, .int x4), (5, .int x5), (6, .int x6)] [.int r4] m3
    refine v_if_eq (pc := 230) C 118 245 rfl (by decide) (fun c6 => ?_) (fun c6 => ?_)
    · replace h := g_ifT c6 h
      refine v_sub [(0, .ref x0), (2, .long x2), (4, .int x4), (5, .int x5), (6, .int x6)] [0, 1, 2, 3, 4] rfl ?_
      exact tb_X8_rename_245 (F := F) C hr hk215 h
    · replace h := g_ifF c6 h
      refine v_aload_n (pc := 233) C 119 0 rfl rfl rfl ?_
      obtain ⟨t7, qt7, h⟩ := g_bd h
      refine v_getR (pc := 234) C 120 rfl lf_ScopeGraphModel_101 (g_oB o1) rfl qt7 ?_
      refine v_iload (pc := 237) C 121 4 rfl rfl ?_
      refine v_iload (pc := 239) C 122 2 rfl rfl ?_
      obtain ⟨b8, h⟩ := g_okk h
      refine v_iast' (pc := 241) C 123 rfl b8 ?_
      refine v_topM (fun m9 em9 => ?_)
      replace h := g_nm h em9
      refine v_iincN (pc := 242) C 124 3 (fun v10 => [(5, .int v10), (0, .ref x0), (2, .long x2), (4, .int x4), (6, .int x6)]) rfl rfl (by decide) (fun _ => rfl) (fun v10 ev10 => ?_)
      replace h := g_nm h ev10
      refine v_sub [(0, .ref x0), (2, .long x2), (4, .int x4), (5, .int v10), (6, .int x6)] [1, 2, 3, 0, 4] rfl ?_
      exact tb_X8_rename_245 (F := F) C hr hk215 h
def l_X8_rename_215 (sh : List gS) (F : Nat) : Nat → Nat → Int64 → Int32 → Int32 → Int32 → gM → Option (Int32 × gM)
  | 0 => fun _ _ _ _ _ _ => none
  | n + 1 => fun x0 x2 x4 x5 x6 m => b_X8_rename_215 sh F (l_X8_rename_215 sh F n) x0 x2 x4 x5 x6 m
theorem tl_X8_rename_215 {X : gX} {w : gW} {rr : Int32} {rm : gM} (C : gC X w K_X8_rename 8 RX8 6) (hr : X.2.2.2.2.2.2.2.2.1.sig.returnType = (some .int)) {F : Nat} : ∀ (n : Nat) (x0 : Nat) (x2 : Int64) (x4 : Int32) (x5 : Int32) (x6 : Int32) (m : gM), l_X8_rename_215 w.2.2.2.2.1 F n x0 x2 x4 x5 x6 m = some (rr, rm) → gV X w 0 0 (gR X w (some (.int rr)) rm) 8 215 [(0, .ref x0), (2, .long x2), (4, .int x4), (5, .int x5), (6, .int x6)] [] m := by
  intro n
  induction n with
  | zero => intro x0 x2 x4 x5 x6 m h; cases h
  | succ n ih => intro x0 x2 x4 x5 x6 m h; exact tb_X8_rename_215 (F := F) C hr ih h
def b_X8_rename_205 (sh : List gS) (F : Nat) (k114 : Nat → Int64 → Int32 → Int32 → Int32 → gM → Option (Int32 × gM)) (x0 : Nat) (x2 : Int64) (x4 : Int32) (x5 : Int32) (x6 : Int32) (y0 : Int32) (y1 : Int32) (y2 : Nat) (m : gM) : Option (Int32 × gM) :=
  g_if (aB sh y2 .boolean y1) (nm (gsI m y2 (y1).toNatClampNeg (vp_nar .boolean y0)) (fun m2 => nm (x6 + Int32.ofInt 1) (fun v3 => k114 x0 x2 x4 x5 v3 m2)))
set_option maxRecDepth 100000 in
set_option maxHeartbeats 4000000 in
theorem tb_X8_rename_205 {X : gX} {w : gW} {rr : Int32} {rm : gM} (C : gC X w K_X8_rename 8 RX8 6) (hr : X.2.2.2.2.2.2.2.2.1.sig.returnType = (some .int)) {F : Nat} {k114 : Nat → Int64 → Int32 → Int32 → Int32 → gM → Option (Int32 × gM)} (hk114 : ∀ (z0 : Nat) (z2 : Int64) (z4 : Int32) (z5 : Int32) (z6 : Int32) (m : gM), k114 z0 z2 z4 z5 z6 m = some (rr, rm) → gV X w 0 0 (gR X w (some (.int rr)) rm) 8 114 [(0, .ref z0), (2, .long z2), (4, .int z4), (5, .int z5), (6, .int z6)] [] m) {x0 : Nat} {x2 : Int64} {x4 : Int32} {x5 : Int32} {x6 : Int32} {y0 : Int32} {y1 : Int32} {y2 : Nat} {m : gM} (h : b_X8_rename_205 w.2.2.2.2.1 F k114 x0 x2 x4 x5 x6 y0 y1 y2 m = some (rr, rm)) : gV X w 0 0 (gR X w (some (.int rr)) rm) 8 205 [(0, .ref x0), (2, .long x2), (4, .int x4), (5, .int x5), (6, .int x6)] [.int y0, .int y1, .ref y2] m := by
  unfold b_X8_rename_205 at h
  obtain ⟨b1, h⟩ := g_okk h
  refine v_zast' (pc := 205) C 106 rfl b1 ?_
  refine v_topM (fun m2 em2 => ?_)
  replace h := g_nm h em2
  refine v_iincN (pc := 206) C 107 4 (fun v3 => [(6, .int v3), (0, .ref x0), (2, .long x2), (4, .int x4), (5, .int x5)]) rfl rfl (by decide) (fun _ => rfl) (fun v3 ev3 => ?_)
  replace h := g_nm h ev3
  refine v_goto (pc := 209) C 108 114 rfl (by decide) ?_
  refine v_sub [(0, .ref x0), (2, .long x2), (4, .int x4), (5, .int x5), (6, .int v3)] [1, 2, 3, 4, 0] rfl ?_
  exact hk114 _ _ _ _ _ _ h
def b_X8_rename_164 (sh : List gS) (F : Nat) (k114 : Nat → Int64 → Int32 → Int32 → Int32 → gM → Option (Int32 × gM)) (x0 : Nat) (x2 : Int64) (x5 : Int32) (x6 : Int32) (y0 : Int32) (m : gM) : Option (Int32 × gM) :=
  g_if (oB sh x0 8) ((m.2.2 x0 71).bind (fun t2 => (m.2.2 x0 68).bind (fun t3 => g_if (aB sh t3 .long x6) (g_if (aB sh t2 .long x6) (nm (gsL m t2 (x6).toNatClampNeg (m.2.1 t3 (x6).toNatClampNeg)) (fun m6 => (m6.2.2 x0 72).bind (fun t7 => (m6.2.2 x0 68).bind (fun t8 => g_if (aB sh t8 .long x6) (if ((m6.2.1 t8 (x6).toNatClampNeg) &&& x2) = (0 : Int64) then (b_X8_rename_205 sh F k114 x0 x2 y0 x5 x6 0 x6 t7 m6) else (b_X8_rename_205 sh F k114 x0 x2 y0 x5 x6 1 x6 t7 m6))))))))))
set_option maxRecDepth 100000 in
set_option maxHeartbeats 4000000 in
theorem tb_X8_rename_164 {X : gX} {w : gW} {rr : Int32} {rm : gM} (C : gC X w K_X8_rename 8 RX8 6) (hr : X.2.2.2.2.2.2.2.2.1.sig.returnType = (some .int)) {F : Nat} {k114 : Nat → Int64 → Int32 → Int32 → Int32 → gM → Option (Int32 × gM)} (hk114 : ∀ (z0 : Nat) (z2 : Int64) (z4 : Int32) (z5 : Int32) (z6 : Int32) (m : gM), k114 z0 z2 z4 z5 z6 m = some (rr, rm) → gV X w 0 0 (gR X w (some (.int rr)) rm) 8 114 [(0, .ref z0), (2, .long z2), (4, .int z4), (5, .int z5), (6, .int z6)] [] m) {x0 : Nat} {x2 : Int64} {x5 : Int32} {x6 : Int32} {y0 : Int32} {m : gM} (h : b_X8_rename_164 w.2.2.2.2.1 F k114 x0 x2 x5 x6 y0 m = some (rr, rm)) : gV X w 0 0 (gR X w (some (.int rr)) rm) 8 164 [(0, .ref x0), (2, .long x2), (5, .int x5), (6, .int x6)] [.int y0] m := by
  unfold b_X8_rename_164 at h
  refine v_istore (pc := 164) (lv' := [(4, .int y0), (0, .ref x0), (2, .long x2), (5, .int x5), (6, .int x6)]) C 82 rfl (by decide) rfl ?_
  refine v_aload_n (pc := 166) C 83 1 rfl rfl rfl ?_
  obtain ⟨o1, h⟩ := g_okk h
  obtain ⟨t2, qt2, h⟩ := g_bd h
  refine v_getR (pc := 167) C 84 rfl lf_ScopeGraphModel_148 (g_oB o1) rfl qt2 ?_
  refine v_iload (pc := 170) C 85 4 rfl rfl ?_
  refine v_aload_n (pc := 172) C 86 1 rfl rfl rfl ?_
  obtain ⟨t3, qt3, h⟩ := g_bd h
  refine v_getR (pc := 173) C 87 rfl lf_ScopeGraphModel_138 (g_oB o1) rfl qt3 ?_
  refine v_iload (pc := 176) C 88 4 rfl rfl ?_
  obtain ⟨b4, h⟩ := g_okk h
  refine v_lald' (pc := 178) C 89 rfl b4 ?_
  obtain ⟨b5, h⟩ := g_okk h
  refine v_last' (pc := 179) C 90 rfl b5 ?_
  refine v_topM (fun m6 em6 => ?_)
  replace h := g_nm h em6
  refine v_aload_n (pc := 180) C 91 1 rfl rfl rfl ?_
  obtain ⟨t7, qt7, h⟩ := g_bd h
  refine v_getR (pc := 181) C 92 rfl lf_ScopeGraphModel_151 (g_oB o1) rfl qt7 ?_
  refine v_iload (pc := 184) C 93 4 rfl rfl ?_
  refine v_aload_n (pc := 186) C 94 1 rfl rfl rfl ?_
  obtain ⟨t8, qt8, h⟩ := g_bd h
  refine v_getR (pc := 187) C 95 rfl lf_ScopeGraphModel_138 (g_oB o1) rfl qt8 ?_
  refine v_iload (pc := 190) C 96 4 rfl rfl ?_
  obtain ⟨b9, h⟩ := g_okk h
  refine v_lald' (pc := 192) C 97 rfl b9 ?_
  refine v_lload_n (pc := 193) C 98 2 rfl rfl rfl ?_
  refine v_land (pc := 194) C 99 rfl ?_
  refine v_lconst (pc := 195) C 100 0 rfl (by decide) ?_
  refine v_lcmp (pc := 196) C 101 rfl ?_
  refine v_lif_eq (pc := 197) C 102 204 rfl (by decide) (fun c10 => ?_) (fun c10 => ?_)
  · replace h := g_ifT c10 h
    refine v_iconst (pc := 204) C 105 0 rfl (by decide) ?_
    refine v_sub [(0, .ref x0), (2, .long x2), (4, .int y0), (5, .int x5), (6, .int x6)] [1, 2, 0, 3, 4] rfl ?_
    exact tb_X8_rename_205 (F := F) C hr hk114 h
  · replace h := g_ifF c10 h
    refine v_iconst (pc := 200) C 103 1 rfl (by decide) ?_
    refine v_goto (pc := 201) C 104 205 rfl (by decide) ?_
    refine v_sub [(0, .ref x0), (2, .long x2), (4, .int y0), (5, .int x5), (6, .int x6)] [1, 2, 0, 3, 4] rfl ?_
    exact tb_X8_rename_205 (F := F) C hr hk114 h
def b_X8_rename_162 (sh : List gS) (F : Nat) (k114 : Nat → Int64 → Int32 → Int32 → Int32 → gM → Option (Int32 × gM)) (x0 : Nat) (x2 : Int64) (x4 : Int32) (x5 : Int32) (x6 : Int32) (m : gM) : Option (Int32 × gM) :=
  b_X8_rename_164 sh F k114 x0 x2 x5 x6 x4 m
set_option maxRecDepth 100000 in
set_option maxHeartbeats 4000000 in
theorem tb_X8_rename_162 {X : gX} {w : gW} {rr : Int32} {rm : gM} (C : gC X w K_X8_rename 8 RX8 6) (hr : X.2.2.2.2.2.2.2.2.1.sig.returnType = (some .int)) {F : Nat} {k114 : Nat → Int64 → Int32 → Int32 → Int32 → gM → Option (Int32 × gM)} (hk114 : ∀ (z0 : Nat) (z2 : Int64) (z4 : Int32) (z5 : Int32) (z6 : Int32) (m : gM), k114 z0 z2 z4 z5 z6 m = some (rr, rm) → gV X w 0 0 (gR X w (some (.int rr)) rm) 8 114 [(0, .ref z0), (2, .long z2), (4, .int z4), (5, .int z5), (6, .int z6)] [] m) {x0 : Nat} {x2 : Int64} {x4 : Int32} {x5 : Int32} {x6 : Int32} {m : gM} (h : b_X8_rename_162 w.2.2.2.2.1 F k114 x0 x2 x4 x5 x6 m = some (rr, rm)) : gV X w 0 0 (gR X w (some (.int rr)) rm) 8 162 [(0, .ref x0), (2, .long x2), (4, .int x4), (5, .int x5), (6, .int x6)] [] m := by
  unfold b_X8_rename_162 at h
  refine v_iload (pc := 162) C 81 2 rfl rfl ?_
  refine v_sub [(0, .ref x0), (2, .long x2), (5, .int x5), (6, .int x6)] [0, 1, 3, 4] rfl ?_
  exact tb_X8_rename_164 (F := F) C hr hk114 h
def b_X8_rename_114 (sh : List gS) (F : Nat) (k114 : Nat → Int64 → Int32 → Int32 → Int32 → gM → Option (Int32 × gM)) (x0 : Nat) (x2 : Int64) (x4 : Int32) (x5 : Int32) (x6 : Int32) (m : gM) : Option (Int32 × gM) :=
  g_if (oB sh x0 8) (if (m.1 x0 20) ≤ x6 then (l_X8_rename_215 sh F F x0 x2 x4 x5 0 m) else ((m.2.2 x0 17).bind (fun t3 => g_if (aB sh t3 .int x6) ((m.2.2 x0 18).bind (fun t5 => g_if (aB sh t5 .int x6) ((f_X8_isTape sh F x0 (m.1 t3 (x6).toNatClampNeg) (m.1 t5 (x6).toNatClampNeg) m).bind (fun q9 => nm q9.1 (fun r8 => nm q9.2 (fun m7 => if r8 = 0 then (b_X8_rename_162 sh F k114 x0 x2 x4 x5 x6 m7) else (if x4 = (5000 : Int32) then ((m7.2.2 x0 53).bind (fun t12 => g_if (aB sh t12 .int x6) (b_X8_rename_164 sh F k114 x0 x2 x5 x6 (m7.1 t12 (x6).toNatClampNeg) m7))) else (b_X8_rename_162 sh F k114 x0 x2 x4 x5 x6 m7)))))))))))
set_option maxRecDepth 100000 in
set_option maxHeartbeats 4000000 in
theorem tb_X8_rename_114 {X : gX} {w : gW} {rr : Int32} {rm : gM} (C : gC X w K_X8_rename 8 RX8 6) (hr : X.2.2.2.2.2.2.2.2.1.sig.returnType = (some .int)) {F : Nat} {k114 : Nat → Int64 → Int32 → Int32 → Int32 → gM → Option (Int32 × gM)} (hk114 : ∀ (z0 : Nat) (z2 : Int64) (z4 : Int32) (z5 : Int32) (z6 : Int32) (m : gM), k114 z0 z2 z4 z5 z6 m = some (rr, rm) → gV X w 0 0 (gR X w (some (.int rr)) rm) 8 114 [(0, .ref z0), (2, .long z2), (4, .int z4), (5, .int z5), (6, .int z6)] [] m) {x0 : Nat} {x2 : Int64} {x4 : Int32} {x5 : Int32} {x6 : Int32} {m : gM} (h : b_X8_rename_114 w.2.2.2.2.1 F k114 x0 x2 x4 x5 x6 m = some (rr, rm)) : gV X w 0 0 (gR X w (some (.int rr)) rm) 8 114 [(0, .ref x0), (2, .long x2), (4, .int x4), (5, .int x5), (6, .int x6)] [] m := by
  unfold b_X8_rename_114 at h
  refine v_iload (pc := 114) C 58 4 rfl rfl ?_
  refine v_aload_n (pc := 116) C 59 0 rfl rfl rfl ?_
  obtain ⟨o1, h⟩ := g_okk h
  refine v_getI (pc := 117) C 60 rfl lf_ScopeGraphModel_223.get (g_oB o1) rfl ?_
  refine v_icmp_ge (pc := 120) C 61 212 rfl (by decide) (fun c2 => ?_) (fun c2 => ?_)
  · replace h := g_ifT c2 h
    refine v_iconst (pc := 212) C 109 0 rfl (by decide) ?_
    refine v_istore (pc := 213) (lv' := [(6, .int 0), (0, .ref x0), (2, .long x2), (4, .int x4), (5, .int x5)]) C 110 rfl (by decide) rfl ?_
    refine v_sub [(0, .ref x0), (2, .long x2), (4, .int x4), (5, .int x5), (6, .int 0)] [1, 2, 3, 4, 0] rfl ?_
    exact tl_X8_rename_215 (F := F) C hr _ _ _ _ _ _ _ h
  · replace h := g_ifF c2 h
    refine v_aload_n (pc := 123) C 62 0 rfl rfl rfl ?_
    refine v_aload_n (pc := 124) C 63 0 rfl rfl rfl ?_
    obtain ⟨t3, qt3, h⟩ := g_bd h
    refine v_getR (pc := 125) C 64 rfl lf_ScopeGraphModel_44 (g_oB o1) rfl qt3 ?_
    refine v_iload (pc := 128) C 65 4 rfl rfl ?_
    obtain ⟨b4, h⟩ := g_okk h
    refine v_iald' (pc := 130) C 66 rfl b4 ?_
    refine v_aload_n (pc := 131) C 67 0 rfl rfl rfl ?_
    obtain ⟨t5, qt5, h⟩ := g_bd h
    refine v_getR (pc := 132) C 68 rfl lf_ScopeGraphModel_47 (g_oB o1) rfl qt5 ?_
    refine v_iload (pc := 135) C 69 4 rfl rfl ?_
    obtain ⟨b6, h⟩ := g_okk h
    refine v_iald' (pc := 137) C 70 rfl b6 ?_
    obtain ⟨⟨r8, m7⟩, qm7, h⟩ := g_bd h
    replace h := g_nm (y := m7) (g_nm (y := r8) h rfl) rfl
    refine v_callV (pc := 138) C 71 rfl mf_X8_isTape clX8 rfl im_X8_isTape lm_ScopeGraphModel_379 (c_X8_isTape C.2.2.2.2.2.2.2.2.2.2.2 qm7) (by decide) rfl (g_oB o1) (Nat.le_of_ble_eq_true rfl) ⟨Nat.zero_le _, Nat.zero_le _⟩ rfl ?_
    change gV X w 0 0 (gR X w (some (.int rr)) rm) 8 141 [(0, .ref x0), (2, .long x2), (4, .int x4), (5, .int x5), (6, .int x6)] [.int r8] m7
    refine v_if_eq (pc := 141) C 72 162 rfl (by decide) (fun c10 => ?_) (fun c10 => ?_)
    · replace h := g_ifT c10 h
      refine v_sub [(0, .ref x0), (2, .long x2), (4, .int x4), (5, .int x5), (6, .int x6)] [0, 1, 2, 3, 4] rfl ?_
      exact tb_X8_rename_162 (F := F) C hr hk114 h
    · replace h := g_ifF c10 h
      refine v_iload (pc := 144) C 73 2 rfl rfl ?_
      refine v_sipush (pc := 146) C 74 5000 rfl (by decide) ?_
      refine v_icmp_ne (pc := 149) C 75 162 rfl (by decide) (fun c11 => ?_) (fun c11 => ?_)
      · replace h := g_ifF c11 h
        refine v_sub [(0, .ref x0), (2, .long x2), (4, .int x4), (5, .int x5), (6, .int x6)] [0, 1, 2, 3, 4] rfl ?_
        exact tb_X8_rename_162 (F := F) C hr hk114 h
      · replace h := g_ifT c11 h
        refine v_aload_n (pc := 152) C 76 0 rfl rfl rfl ?_
        obtain ⟨t12, qt12, h⟩ := g_bd h
        refine v_getR (pc := 153) C 77 rfl lf_ScopeGraphModel_104 (g_oB o1) rfl qt12 ?_
        refine v_iload (pc := 156) C 78 4 rfl rfl ?_
        obtain ⟨b13, h⟩ := g_okk h
        refine v_iald' (pc := 158) C 79 rfl b13 ?_
        refine v_goto (pc := 159) C 80 164 rfl (by decide) ?_
        refine v_sub [(0, .ref x0), (2, .long x2), (5, .int x5), (6, .int x6)] [0, 1, 3, 4] rfl ?_
        exact tb_X8_rename_164 (F := F) C hr hk114 h
def l_X8_rename_114 (sh : List gS) (F : Nat) : Nat → Nat → Int64 → Int32 → Int32 → Int32 → gM → Option (Int32 × gM)
  | 0 => fun _ _ _ _ _ _ => none
  | n + 1 => fun x0 x2 x4 x5 x6 m => b_X8_rename_114 sh F (l_X8_rename_114 sh F n) x0 x2 x4 x5 x6 m
theorem tl_X8_rename_114 {X : gX} {w : gW} {rr : Int32} {rm : gM} (C : gC X w K_X8_rename 8 RX8 6) (hr : X.2.2.2.2.2.2.2.2.1.sig.returnType = (some .int)) {F : Nat} : ∀ (n : Nat) (x0 : Nat) (x2 : Int64) (x4 : Int32) (x5 : Int32) (x6 : Int32) (m : gM), l_X8_rename_114 w.2.2.2.2.1 F n x0 x2 x4 x5 x6 m = some (rr, rm) → gV X w 0 0 (gR X w (some (.int rr)) rm) 8 114 [(0, .ref x0), (2, .long x2), (4, .int x4), (5, .int x5), (6, .int x6)] [] m := by
  intro n
  induction n with
  | zero => intro x0 x2 x4 x5 x6 m h; cases h
  | succ n ih => intro x0 x2 x4 x5 x6 m h; exact tb_X8_rename_114 (F := F) C hr ih h
def b_X8_rename_103 (sh : List gS) (F : Nat) (k53 : Nat → Int64 → Int32 → Int32 → Int32 → gM → Option (Int32 × gM)) (x0 : Nat) (x2 : Int64) (x5 : Int32) (x6 : Int32) (y0 : Int32) (m : gM) : Option (Int32 × gM) :=
  nm (x6 + Int32.ofInt 1) (fun v1 => k53 x0 x2 y0 x5 v1 m)
set_option maxRecDepth 100000 in
set_option maxHeartbeats 4000000 in
theorem tb_X8_rename_103 {X : gX} {w : gW} {rr : Int32} {rm : gM} (C : gC X w K_X8_rename 8 RX8 6) (hr : X.2.2.2.2.2.2.2.2.1.sig.returnType = (some .int)) {F : Nat} {k53 : Nat → Int64 → Int32 → Int32 → Int32 → gM → Option (Int32 × gM)} (hk53 : ∀ (z0 : Nat) (z2 : Int64) (z4 : Int32) (z5 : Int32) (z6 : Int32) (m : gM), k53 z0 z2 z4 z5 z6 m = some (rr, rm) → gV X w 0 0 (gR X w (some (.int rr)) rm) 8 53 [(0, .ref z0), (2, .long z2), (4, .int z4), (5, .int z5), (6, .int z6)] [] m) {x0 : Nat} {x2 : Int64} {x5 : Int32} {x6 : Int32} {y0 : Int32} {m : gM} (h : b_X8_rename_103 w.2.2.2.2.1 F k53 x0 x2 x5 x6 y0 m = some (rr, rm)) : gV X w 0 0 (gR X w (some (.int rr)) rm) 8 103 [(0, .ref x0), (2, .long x2), (5, .int x5), (6, .int x6)] [.int y0] m := by
  unfold b_X8_rename_103 at h
  refine v_istore (pc := 103) (lv' := [(4, .int y0), (0, .ref x0), (2, .long x2), (5, .int x5), (6, .int x6)]) C 53 rfl (by decide) rfl ?_
  refine v_iincN (pc := 105) C 54 4 (fun v1 => [(6, .int v1), (4, .int y0), (0, .ref x0), (2, .long x2), (5, .int x5)]) rfl rfl (by decide) (fun _ => rfl) (fun v1 ev1 => ?_)
  replace h := g_nm h ev1
  refine v_goto (pc := 108) C 55 53 rfl (by decide) ?_
  refine v_sub [(0, .ref x0), (2, .long x2), (4, .int y0), (5, .int x5), (6, .int v1)] [2, 3, 1, 4, 0] rfl ?_
  exact hk53 _ _ _ _ _ _ h
def b_X8_rename_101 (sh : List gS) (F : Nat) (k53 : Nat → Int64 → Int32 → Int32 → Int32 → gM → Option (Int32 × gM)) (x0 : Nat) (x2 : Int64) (x4 : Int32) (x5 : Int32) (x6 : Int32) (m : gM) : Option (Int32 × gM) :=
  b_X8_rename_103 sh F k53 x0 x2 x5 x6 x4 m
set_option maxRecDepth 100000 in
set_option maxHeartbeats 4000000 in
theorem tb_X8_rename_101 {X : gX} {w : gW} {rr : Int32} {rm : gM} (C : gC X w K_X8_rename 8 RX8 6) (hr : X.2.2.2.2.2.2.2.2.1.sig.returnType = (some .int)) {F : Nat} {k53 : Nat → Int64 → Int32 → Int32 → Int32 → gM → Option (Int32 × gM)} (hk53 : ∀ (z0 : Nat) (z2 : Int64) (z4 : Int32) (z5 : Int32) (z6 : Int32) (m : gM), k53 z0 z2 z4 z5 z6 m = some (rr, rm) → gV X w 0 0 (gR X w (some (.int rr)) rm) 8 53 [(0, .ref z0), (2, .long z2), (4, .int z4), (5, .int z5), (6, .int z6)] [] m) {x0 : Nat} {x2 : Int64} {x4 : Int32} {x5 : Int32} {x6 : Int32} {m : gM} (h : b_X8_rename_101 w.2.2.2.2.1 F k53 x0 x2 x4 x5 x6 m = some (rr, rm)) : gV X w 0 0 (gR X w (some (.int rr)) rm) 8 101 [(0, .ref x0), (2, .long x2), (4, .int x4), (5, .int x5), (6, .int x6)] [] m := by
  unfold b_X8_rename_101 at h
  refine v_iload (pc := 101) C 52 2 rfl rfl ?_
  refine v_sub [(0, .ref x0), (2, .long x2), (5, .int x5), (6, .int x6)] [0, 1, 3, 4] rfl ?_
  exact tb_X8_rename_103 (F := F) C hr hk53 h
def b_X8_rename_53 (sh : List gS) (F : Nat) (k53 : Nat → Int64 → Int32 → Int32 → Int32 → gM → Option (Int32 × gM)) (x0 : Nat) (x2 : Int64) (x4 : Int32) (x5 : Int32) (x6 : Int32) (m : gM) : Option (Int32 × gM) :=
  g_if (oB sh x0 8) (if (m.1 x0 15) ≤ x6 then (l_X8_rename_114 sh F F x0 x2 x4 x5 0 m) else ((m.2.2 x0 12).bind (fun t3 => g_if (aB sh t3 .int x6) ((m.2.2 x0 13).bind (fun t5 => g_if (aB sh t5 .int x6) ((f_X8_isTape sh F x0 (m.1 t3 (x6).toNatClampNeg) (m.1 t5 (x6).toNatClampNeg) m).bind (fun q9 => nm q9.1 (fun r8 => nm q9.2 (fun m7 => if r8 = 0 then (b_X8_rename_101 sh F k53 x0 x2 x4 x5 x6 m7) else (if x4 = (5000 : Int32) then ((m7.2.2 x0 52).bind (fun t12 => g_if (aB sh t12 .int x6) (b_X8_rename_103 sh F k53 x0 x2 x5 x6 (m7.1 t12 (x6).toNatClampNeg) m7))) else (b_X8_rename_101 sh F k53 x0 x2 x4 x5 x6 m7)))))))))))
set_option maxRecDepth 100000 in
set_option maxHeartbeats 4000000 in
theorem tb_X8_rename_53 {X : gX} {w : gW} {rr : Int32} {rm : gM} (C : gC X w K_X8_rename 8 RX8 6) (hr : X.2.2.2.2.2.2.2.2.1.sig.returnType = (some .int)) {F : Nat} {k53 : Nat → Int64 → Int32 → Int32 → Int32 → gM → Option (Int32 × gM)} (hk53 : ∀ (z0 : Nat) (z2 : Int64) (z4 : Int32) (z5 : Int32) (z6 : Int32) (m : gM), k53 z0 z2 z4 z5 z6 m = some (rr, rm) → gV X w 0 0 (gR X w (some (.int rr)) rm) 8 53 [(0, .ref z0), (2, .long z2), (4, .int z4), (5, .int z5), (6, .int z6)] [] m) {x0 : Nat} {x2 : Int64} {x4 : Int32} {x5 : Int32} {x6 : Int32} {m : gM} (h : b_X8_rename_53 w.2.2.2.2.1 F k53 x0 x2 x4 x5 x6 m = some (rr, rm)) : gV X w 0 0 (gR X w (some (.int rr)) rm) 8 53 [(0, .ref x0), (2, .long x2), (4, .int x4), (5, .int x5), (6, .int x6)] [] m := by
  unfold b_X8_rename_53 at h
  refine v_iload (pc := 53) C 29 4 rfl rfl ?_
  refine v_aload_n (pc := 55) C 30 0 rfl rfl rfl ?_
  obtain ⟨o1, h⟩ := g_okk h
  refine v_getI (pc := 56) C 31 rfl lf_ScopeGraphModel_211.get (g_oB o1) rfl ?_
  refine v_icmp_ge (pc := 59) C 32 111 rfl (by decide) (fun c2 => ?_) (fun c2 => ?_)
  · replace h := g_ifT c2 h
    refine v_iconst (pc := 111) C 56 0 rfl (by decide) ?_
    refine v_istore (pc := 112) (lv' := [(6, .int 0), (0, .ref x0), (2, .long x2), (4, .int x4), (5, .int x5)]) C 57 rfl (by decide) rfl ?_
    refine v_sub [(0, .ref x0), (2, .long x2), (4, .int x4), (5, .int x5), (6, .int 0)] [1, 2, 3, 4, 0] rfl ?_
    exact tl_X8_rename_114 (F := F) C hr _ _ _ _ _ _ _ h
  · replace h := g_ifF c2 h
    refine v_aload_n (pc := 62) C 33 0 rfl rfl rfl ?_
    refine v_aload_n (pc := 63) C 34 0 rfl rfl rfl ?_
    obtain ⟨t3, qt3, h⟩ := g_bd h
    refine v_getR (pc := 64) C 35 rfl lf_ScopeGraphModel_32 (g_oB o1) rfl qt3 ?_
    refine v_iload (pc := 67) C 36 4 rfl rfl ?_
    obtain ⟨b4, h⟩ := g_okk h
    refine v_iald' (pc := 69) C 37 rfl b4 ?_
    refine v_aload_n (pc := 70) C 38 0 rfl rfl rfl ?_
    obtain ⟨t5, qt5, h⟩ := g_bd h
    refine v_getR (pc := 71) C 39 rfl lf_ScopeGraphModel_35 (g_oB o1) rfl qt5 ?_
    refine v_iload (pc := 74) C 40 4 rfl rfl ?_
    obtain ⟨b6, h⟩ := g_okk h
    refine v_iald' (pc := 76) C 41 rfl b6 ?_
    obtain ⟨⟨r8, m7⟩, qm7, h⟩ := g_bd h
    replace h := g_nm (y := m7) (g_nm (y := r8) h rfl) rfl
    refine v_callV (pc := 77) C 42 rfl mf_X8_isTape clX8 rfl im_X8_isTape lm_ScopeGraphModel_379 (c_X8_isTape C.2.2.2.2.2.2.2.2.2.2.2 qm7) (by decide) rfl (g_oB o1) (Nat.le_of_ble_eq_true rfl) ⟨Nat.zero_le _, Nat.zero_le _⟩ rfl ?_
    change gV X w 0 0 (gR X w (some (.int rr)) rm) 8 80 [(0, .ref x0), (2, .long x2), (4, .int x4), (5, .int x5), (6, .int x6)] [.int r8] m7
    refine v_if_eq (pc := 80) C 43 101 rfl (by decide) (fun c10 => ?_) (fun c10 => ?_)
    · replace h := g_ifT c10 h
      refine v_sub [(0, .ref x0), (2, .long x2), (4, .int x4), (5, .int x5), (6, .int x6)] [0, 1, 2, 3, 4] rfl ?_
      exact tb_X8_rename_101 (F := F) C hr hk53 h
    · replace h := g_ifF c10 h
      refine v_iload (pc := 83) C 44 2 rfl rfl ?_
      refine v_sipush (pc := 85) C 45 5000 rfl (by decide) ?_
      refine v_icmp_ne (pc := 88) C 46 101 rfl (by decide) (fun c11 => ?_) (fun c11 => ?_)
      · replace h := g_ifF c11 h
        refine v_sub [(0, .ref x0), (2, .long x2), (4, .int x4), (5, .int x5), (6, .int x6)] [0, 1, 2, 3, 4] rfl ?_
        exact tb_X8_rename_101 (F := F) C hr hk53 h
      · replace h := g_ifT c11 h
        refine v_aload_n (pc := 91) C 47 0 rfl rfl rfl ?_
        obtain ⟨t12, qt12, h⟩ := g_bd h
        refine v_getR (pc := 92) C 48 rfl lf_ScopeGraphModel_101 (g_oB o1) rfl qt12 ?_
        refine v_iload (pc := 95) C 49 4 rfl rfl ?_
        obtain ⟨b13, h⟩ := g_okk h
        refine v_iald' (pc := 97) C 50 rfl b13 ?_
        refine v_goto (pc := 98) C 51 103 rfl (by decide) ?_
        refine v_sub [(0, .ref x0), (2, .long x2), (5, .int x5), (6, .int x6)] [0, 1, 3, 4] rfl ?_
        exact tb_X8_rename_103 (F := F) C hr hk53 h
def l_X8_rename_53 (sh : List gS) (F : Nat) : Nat → Nat → Int64 → Int32 → Int32 → Int32 → gM → Option (Int32 × gM)
  | 0 => fun _ _ _ _ _ _ => none
  | n + 1 => fun x0 x2 x4 x5 x6 m => b_X8_rename_53 sh F (l_X8_rename_53 sh F n) x0 x2 x4 x5 x6 m
theorem tl_X8_rename_53 {X : gX} {w : gW} {rr : Int32} {rm : gM} (C : gC X w K_X8_rename 8 RX8 6) (hr : X.2.2.2.2.2.2.2.2.1.sig.returnType = (some .int)) {F : Nat} : ∀ (n : Nat) (x0 : Nat) (x2 : Int64) (x4 : Int32) (x5 : Int32) (x6 : Int32) (m : gM), l_X8_rename_53 w.2.2.2.2.1 F n x0 x2 x4 x5 x6 m = some (rr, rm) → gV X w 0 0 (gR X w (some (.int rr)) rm) 8 53 [(0, .ref x0), (2, .long x2), (4, .int x4), (5, .int x5), (6, .int x6)] [] m := by
  intro n
  induction n with
  | zero => intro x0 x2 x4 x5 x6 m h; cases h
  | succ n ih => intro x0 x2 x4 x5 x6 m h; exact tb_X8_rename_53 (F := F) C hr ih h
def b_X8_rename_18 (sh : List gS) (F : Nat) (x0 : Nat) (x1 : Int32) (y0 : Int32) (y1 : Nat) (m : gM) : Option (Int32 × gM) :=
  g_if (oB sh y1 8) ((f_X8_fails sh F y1 y0 m).bind (fun q4 => nm q4.1 (fun r3 => nm q4.2 (fun m2 => if r3 = 0 then (g_if (oB sh x0 8) ((f_X8_isName sh F x0 m2).bind (fun q9 => nm q9.1 (fun r8 => nm q9.2 (fun m7 => if r8 = 0 then (some ((-2), m7)) else ((f_X8_friendsOf sh F x0 x1 m7).bind (fun q13 => nm q13.1 (fun r12 => nm q13.2 (fun m11 => l_X8_rename_53 sh F F x0 r12 5000 0 0 m11))))))))) else (some (0, m2))))))
set_option maxRecDepth 100000 in
set_option maxHeartbeats 4000000 in
theorem tb_X8_rename_18 {X : gX} {w : gW} {rr : Int32} {rm : gM} (C : gC X w K_X8_rename 8 RX8 6) (hr : X.2.2.2.2.2.2.2.2.1.sig.returnType = (some .int)) {F : Nat} {x0 : Nat} {x1 : Int32} {y0 : Int32} {y1 : Nat} {m : gM} (h : b_X8_rename_18 w.2.2.2.2.1 F x0 x1 y0 y1 m = some (rr, rm)) : gV X w 0 0 (gR X w (some (.int rr)) rm) 8 18 [(0, .ref x0), (1, .int x1)] [.int y0, .ref y1] m := by
  unfold b_X8_rename_18 at h
  obtain ⟨o1, h⟩ := g_okk h
  obtain ⟨⟨r3, m2⟩, qm2, h⟩ := g_bd h
  replace h := g_nm (y := m2) (g_nm (y := r3) h rfl) rfl
  refine v_callV (pc := 18) C 10 rfl mf_X8_fails clX8 rfl im_X8_fails lm_ScopeGraphModel_160 (c_X8_fails C.2.2.2.2.2.2.2.2.2.2.2 qm2) (by decide) rfl (g_oB o1) (Nat.le_of_ble_eq_true rfl) ⟨Nat.zero_le _, Nat.zero_le _⟩ rfl ?_
  change gV X w 0 0 (gR X w (some (.int rr)) rm) 8 21 [(0, .ref x0), (1, .int x1)] [.int r3] m2
  refine v_if_eq (pc := 21) C 11 26 rfl (by decide) (fun c5 => ?_) (fun c5 => ?_)
  · replace h := g_ifT c5 h
    refine v_aload_n (pc := 26) C 14 0 rfl rfl rfl ?_
    obtain ⟨o6, h⟩ := g_okk h
    obtain ⟨⟨r8, m7⟩, qm7, h⟩ := g_bd h
    replace h := g_nm (y := m7) (g_nm (y := r8) h rfl) rfl
    refine v_callV (pc := 27) C 15 rfl mf_X8_isName clX8 rfl im_X8_isName lm_ScopeGraphModel_376 (c_X8_isName C.2.2.2.2.2.2.2.2.2.2.2 qm7) (by decide) rfl (g_oB o6) (Nat.le_of_ble_eq_true rfl) ⟨Nat.zero_le _, Nat.zero_le _⟩ rfl ?_
    change gV X w 0 0 (gR X w (some (.int rr)) rm) 8 30 [(0, .ref x0), (1, .int x1)] [.int r8] m7
    refine v_if_ne (pc := 30) C 16 36 rfl (by decide) (fun c10 => ?_) (fun c10 => ?_)
    · replace h := g_ifF c10 h
      refine v_aload_n (pc := 36) C 19 0 rfl rfl rfl ?_
      refine v_iload_n (pc := 37) C 20 1 rfl rfl rfl ?_
      obtain ⟨⟨r12, m11⟩, qm11, h⟩ := g_bd h
      replace h := g_nm (y := m11) (g_nm (y := r12) h rfl) rfl
      refine v_callV (pc := 38) C 21 rfl mf_X8_friendsOf clX8 rfl im_X8_friendsOf lm_ScopeGraphModel_372 (c_X8_friendsOf C.2.2.2.2.2.2.2.2.2.2.2 qm11) (by decide) rfl (g_oB o6) (Nat.le_of_ble_eq_true rfl) ⟨Nat.zero_le _, Nat.zero_le _⟩ rfl ?_
      change gV X w 0 0 (gR X w (some (.int rr)) rm) 8 41 [(0, .ref x0), (1, .int x1)] [.long r12] m11
      refine v_lstore_n (pc := 41) (lv' := [(2, .long r12), (0, .ref x0), (1, .int x1)]) C 22 rfl rfl (by decide) rfl ?_
      refine v_sipush (pc := 42) C 23 5000 rfl (by decide) ?_
      refine v_istore (pc := 45) (lv' := [(4, .int 5000), (2, .long r12), (0, .ref x0), (1, .int x1)]) C 24 rfl (by decide) rfl ?_
      refine v_iconst (pc := 47) C 25 0 rfl (by decide) ?_
      refine v_istore (pc := 48) (lv' := [(5, .int 0), (4, .int 5000), (2, .long r12), (0, .ref x0), (1, .int x1)]) C 26 rfl (by decide) rfl ?_
      refine v_iconst (pc := 50) C 27 0 rfl (by decide) ?_
      refine v_istore (pc := 51) (lv' := [(6, .int 0), (5, .int 0), (4, .int 5000), (2, .long r12), (0, .ref x0), (1, .int x1)]) C 28 rfl (by decide) rfl ?_
      refine v_sub [(0, .ref x0), (2, .long r12), (4, .int 5000), (5, .int 0), (6, .int 0)] [4, 3, 2, 1, 0] rfl ?_
      exact tl_X8_rename_53 (F := F) C hr _ _ _ _ _ _ _ h
    · replace h := g_ifT c10 h
      refine v_bipush (pc := 33) C 17 (-2) rfl (by decide) ?_
      obtain ⟨rfl, rfl⟩ := g_so h
      exact v_iret (pc := 35) C 18 rfl hr
  · replace h := g_ifF c5 h
    refine v_iconst (pc := 24) C 12 0 rfl (by decide) ?_
    obtain ⟨rfl, rfl⟩ := g_so h
    exact v_iret (pc := 25) C 13 rfl hr
def b_X8_rename_17 (sh : List gS) (F : Nat) (x0 : Nat) (x1 : Int32) (y0 : Nat) (m : gM) : Option (Int32 × gM) :=
  b_X8_rename_18 sh F x0 x1 0 y0 m
set_option maxRecDepth 100000 in
set_option maxHeartbeats 4000000 in
theorem tb_X8_rename_17 {X : gX} {w : gW} {rr : Int32} {rm : gM} (C : gC X w K_X8_rename 8 RX8 6) (hr : X.2.2.2.2.2.2.2.2.1.sig.returnType = (some .int)) {F : Nat} {x0 : Nat} {x1 : Int32} {y0 : Nat} {m : gM} (h : b_X8_rename_17 w.2.2.2.2.1 F x0 x1 y0 m = some (rr, rm)) : gV X w 0 0 (gR X w (some (.int rr)) rm) 8 17 [(0, .ref x0), (1, .int x1)] [.ref y0] m := by
  unfold b_X8_rename_17 at h
  refine v_iconst (pc := 17) C 9 0 rfl (by decide) ?_
  refine v_sub [(0, .ref x0), (1, .int x1)] [0, 1] rfl ?_
  exact tb_X8_rename_18 (F := F) C hr h
def f_X8_rename (sh : List gS) (F : Nat) (x0 : Nat) (x1 : Int32) (m : gM) : Option (Int32 × gM) :=
  if x1 < 0 then (b_X8_rename_17 sh F x0 x1 x0 m) else (g_if (oB sh x0 8) (if (m.1 x0 15) ≤ x1 then (b_X8_rename_17 sh F x0 x1 x0 m) else (b_X8_rename_18 sh F x0 x1 1 x0 m)))
set_option maxRecDepth 100000 in
set_option maxHeartbeats 4000000 in
theorem tf_X8_rename {X : gX} {w : gW} {rr : Int32} {rm : gM} (C : gC X w K_X8_rename 8 RX8 6) (hr : X.2.2.2.2.2.2.2.2.1.sig.returnType = (some .int)) {F : Nat} {x0 : Nat} {x1 : Int32} {m : gM} (h : f_X8_rename w.2.2.2.2.1 F x0 x1 m = some (rr, rm)) : gV X w 0 0 (gR X w (some (.int rr)) rm) 8 0 [(0, .ref x0), (1, .int x1)] [] m := by
  unfold f_X8_rename at h
  refine v_aload_n (pc := 0) C 0 0 rfl rfl rfl ?_
  refine v_iload_n (pc := 1) C 1 1 rfl rfl rfl ?_
  refine v_if_lt (pc := 2) C 2 17 rfl (by decide) (fun c1 => ?_) (fun c1 => ?_)
  · replace h := g_ifT c1 h
    refine v_sub [(0, .ref x0), (1, .int x1)] [0, 1] rfl ?_
    exact tb_X8_rename_17 (F := F) C hr h
  · replace h := g_ifF c1 h
    refine v_iload_n (pc := 5) C 3 1 rfl rfl rfl ?_
    refine v_aload_n (pc := 6) C 4 0 rfl rfl rfl ?_
    obtain ⟨o2, h⟩ := g_okk h
    refine v_getI (pc := 7) C 5 rfl lf_ScopeGraphModel_211.get (g_oB o2) rfl ?_
    refine v_icmp_ge (pc := 10) C 6 17 rfl (by decide) (fun c3 => ?_) (fun c3 => ?_)
    · replace h := g_ifT c3 h
      refine v_sub [(0, .ref x0), (1, .int x1)] [0, 1] rfl ?_
      exact tb_X8_rename_17 (F := F) C hr h
    · replace h := g_ifF c3 h
      refine v_iconst (pc := 13) C 7 1 rfl (by decide) ?_
      refine v_goto (pc := 14) C 8 18 rfl (by decide) ?_
      refine v_sub [(0, .ref x0), (1, .int x1)] [0, 1] rfl ?_
      exact tb_X8_rename_18 (F := F) C hr h
theorem c_X8_rename {l : Launch} {w : gW} {rr : Int32} {rm : gM} (hJ : gJok w) {F : Nat} {x0 : Nat} {x1 : Int32} {m : gM} (h : f_X8_rename w.2.2.2.2.1 F x0 x1 m = some (rr, rm)) : gMet l 6 yX8_rename cX8_rename 8 (some .int) w [.ref x0, .int x1] m (some (.int rr)) rm :=
  gMet.of hJ mf_X8_rename dk_X8_rename (Nat.le_of_ble_eq_true rfl) (fun X _ C hr => tf_X8_rename (F := F) C hr h)
def b_X8_letter_18 (sh : List gS) (F : Nat) (x0 : Nat) (x1 : Int32) (y0 : Int32) (y1 : Nat) (m : gM) : Option (Int32 × gM) :=
  g_if (oB sh y1 8) ((f_X8_fails sh F y1 y0 m).bind (fun q4 => nm q4.1 (fun r3 => nm q4.2 (fun m2 => if r3 = 0 then (g_if (oB sh x0 8) ((m2.2.2 x0 3).bind (fun t7 => g_if (aB sh t7 .int x1) (some (m2.1 t7 (x1).toNatClampNeg, m2))))) else (some (0, m2))))))
set_option maxRecDepth 100000 in
set_option maxHeartbeats 4000000 in
theorem tb_X8_letter_18 {X : gX} {w : gW} {rr : Int32} {rm : gM} (C : gC X w K_X8_letter 2 RX8 1) (hr : X.2.2.2.2.2.2.2.2.1.sig.returnType = (some .int)) {F : Nat} {x0 : Nat} {x1 : Int32} {y0 : Int32} {y1 : Nat} {m : gM} (h : b_X8_letter_18 w.2.2.2.2.1 F x0 x1 y0 y1 m = some (rr, rm)) : gV X w 0 0 (gR X w (some (.int rr)) rm) 2 18 [(0, .ref x0), (1, .int x1)] [.int y0, .ref y1] m := by
  unfold b_X8_letter_18 at h
  obtain ⟨o1, h⟩ := g_okk h
  obtain ⟨⟨r3, m2⟩, qm2, h⟩ := g_bd h
  replace h := g_nm (y := m2) (g_nm (y := r3) h rfl) rfl
  refine v_callV (pc := 18) C 10 rfl mf_X8_fails clX8 rfl im_X8_fails lm_ScopeGraphModel_160 (c_X8_fails C.2.2.2.2.2.2.2.2.2.2.2 qm2) (by decide) rfl (g_oB o1) (Nat.le_of_ble_eq_true rfl) ⟨Nat.zero_le _, Nat.zero_le _⟩ rfl ?_
  change gV X w 0 0 (gR X w (some (.int rr)) rm) 2 21 [(0, .ref x0), (1, .int x1)] [.int r3] m2
  refine v_if_eq (pc := 21) C 11 28 rfl (by decide) (fun c5 => ?_) (fun c5 => ?_)
  · replace h := g_ifT c5 h
    refine v_aload_n (pc := 28) C 14 0 rfl rfl rfl ?_
    obtain ⟨o6, h⟩ := g_okk h
    obtain ⟨t7, qt7, h⟩ := g_bd h
    refine v_getR (pc := 29) C 15 rfl lf_ScopeGraphModel_13 (g_oB o6) rfl qt7 ?_
    refine v_iload_n (pc := 32) C 16 1 rfl rfl rfl ?_
    obtain ⟨b8, h⟩ := g_okk h
    refine v_iald' (pc := 33) C 17 rfl b8 ?_
    obtain ⟨rfl, rfl⟩ := g_so h
    exact v_iret (pc := 34) C 18 rfl hr
  · replace h := g_ifF c5 h
    refine v_iconst (pc := 24) C 12 0 rfl (by decide) ?_
    refine v_goto (pc := 25) C 13 34 rfl (by decide) ?_
    obtain ⟨rfl, rfl⟩ := g_so h
    exact v_iret (pc := 34) C 18 rfl hr
def b_X8_letter_17 (sh : List gS) (F : Nat) (x0 : Nat) (x1 : Int32) (y0 : Nat) (m : gM) : Option (Int32 × gM) :=
  b_X8_letter_18 sh F x0 x1 0 y0 m
set_option maxRecDepth 100000 in
set_option maxHeartbeats 4000000 in
theorem tb_X8_letter_17 {X : gX} {w : gW} {rr : Int32} {rm : gM} (C : gC X w K_X8_letter 2 RX8 1) (hr : X.2.2.2.2.2.2.2.2.1.sig.returnType = (some .int)) {F : Nat} {x0 : Nat} {x1 : Int32} {y0 : Nat} {m : gM} (h : b_X8_letter_17 w.2.2.2.2.1 F x0 x1 y0 m = some (rr, rm)) : gV X w 0 0 (gR X w (some (.int rr)) rm) 2 17 [(0, .ref x0), (1, .int x1)] [.ref y0] m := by
  unfold b_X8_letter_17 at h
  refine v_iconst (pc := 17) C 9 0 rfl (by decide) ?_
  refine v_sub [(0, .ref x0), (1, .int x1)] [0, 1] rfl ?_
  exact tb_X8_letter_18 (F := F) C hr h
def f_X8_letter (sh : List gS) (F : Nat) (x0 : Nat) (x1 : Int32) (m : gM) : Option (Int32 × gM) :=
  if x1 < 0 then (b_X8_letter_17 sh F x0 x1 x0 m) else (g_if (oB sh x0 8) (if (m.1 x0 4) ≤ x1 then (b_X8_letter_17 sh F x0 x1 x0 m) else (b_X8_letter_18 sh F x0 x1 1 x0 m)))
set_option maxRecDepth 100000 in
set_option maxHeartbeats 4000000 in
theorem tf_X8_letter {X : gX} {w : gW} {rr : Int32} {rm : gM} (C : gC X w K_X8_letter 2 RX8 1) (hr : X.2.2.2.2.2.2.2.2.1.sig.returnType = (some .int)) {F : Nat} {x0 : Nat} {x1 : Int32} {m : gM} (h : f_X8_letter w.2.2.2.2.1 F x0 x1 m = some (rr, rm)) : gV X w 0 0 (gR X w (some (.int rr)) rm) 2 0 [(0, .ref x0), (1, .int x1)] [] m := by
  unfold f_X8_letter at h
  refine v_aload_n (pc := 0) C 0 0 rfl rfl rfl ?_
  refine v_iload_n (pc := 1) C 1 1 rfl rfl rfl ?_
  refine v_if_lt (pc := 2) C 2 17 rfl (by decide) (fun c1 => ?_) (fun c1 => ?_)
  · replace h := g_ifT c1 h
    refine v_sub [(0, .ref x0), (1, .int x1)] [0, 1] rfl ?_
    exact tb_X8_letter_17 (F := F) C hr h
  · replace h := g_ifF c1 h
    refine v_iload_n (pc := 5) C 3 1 rfl rfl rfl ?_
    refine v_aload_n (pc := 6) C 4 0 rfl rfl rfl ?_
    obtain ⟨o2, h⟩ := g_okk h
    refine v_getI (pc := 7) C 5 rfl lf_ScopeGraphModel_304.get (g_oB o2) rfl ?_
    refine v_icmp_ge (pc := 10) C 6 17 rfl (by decide) (fun c3 => ?_) (fun c3 => ?_)
    · replace h := g_ifT c3 h
      refine v_sub [(0, .ref x0), (1, .int x1)] [0, 1] rfl ?_
      exact tb_X8_letter_17 (F := F) C hr h
    · replace h := g_ifF c3 h
      refine v_iconst (pc := 13) C 7 1 rfl (by decide) ?_
      refine v_goto (pc := 14) C 8 18 rfl (by decide) ?_
      refine v_sub [(0, .ref x0), (1, .int x1)] [0, 1] rfl ?_
      exact tb_X8_letter_18 (F := F) C hr h
theorem c_X8_letter {l : Launch} {w : gW} {rr : Int32} {rm : gM} (hJ : gJok w) {F : Nat} {x0 : Nat} {x1 : Int32} {m : gM} (h : f_X8_letter w.2.2.2.2.1 F x0 x1 m = some (rr, rm)) : gMet l 1 yX8_letter cX8_letter 2 (some .int) w [.ref x0, .int x1] m (some (.int rr)) rm :=
  gMet.of hJ mf_X8_letter dk_X8_letter (Nat.le_of_ble_eq_true rfl) (fun X _ C hr => tf_X8_letter (F := F) C hr h)
