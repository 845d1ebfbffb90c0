def b_X8_ends_87 (sh : List gS) (F : Nat) (x0 : Nat) (x1 : Int32) (y0 : Int32) (y1 : Nat) (m : gM) : Option (Int32 × gM) :=
  g_if (oB sh y1 8) ((f_X8_is sh F y1 y0 m).bind (fun q4 => nm q4.1 (fun r3 => nm q4.2 (fun m2 => if r3 = 0 then (g_if (oB sh x0 8) ((f_X8_odd sh F x0 m2).bind (fun q20 => nm q20.1 (fun r19 => nm q20.2 (fun m18 => g_if (zB r19) (some (r19, m18))))))) else (g_if (oB sh x0 8) (nm (gsI m2 x0 47 ((m2.1 x0 47) - (1 : Int32))) (fun m7 => nm (gsI m7 x0 48 ((m7.1 x0 48) - (1 : Int32))) (fun m8 => (m8.2.2 x0 44).bind (fun t9 => g_if (aB sh t9 .int x1) (nm (gsI m8 x0 49 (m8.1 t9 (x1).toNatClampNeg)) (fun m11 => nm (gsI m11 x0 51 1) (fun m12 => (f_X8_next sh F x0 m12).bind (fun q15 => nm q15.1 (fun r14 => nm q15.2 (fun m13 => g_if (zB r14) (some (r14, m13)))))))))))))))))
set_option maxRecDepth 100000 in
set_option maxHeartbeats 4000000 in
theorem tb_X8_ends_87 {X : gX} {w : gW} {rr : Int32} {rm : gM} (C : gC X w K_X8_ends 2 RX8 3) (hr : X.2.2.2.2.2.2.2.2.1.sig.returnType = (some .boolean)) {F : Nat} {x0 : Nat} {x1 : Int32} {y0 : Int32} {y1 : Nat} {m : gM} (h : b_X8_ends_87 w.2.2.2.2.1 F x0 x1 y0 y1 m = some (rr, rm)) : gV X w 0 0 (gR X w (some (.int rr)) rm) 2 87 [(0, .ref x0), (1, .int x1)] [.int y0, .ref y1] m := by
  unfold b_X8_ends_87 at h
  obtain ⟨o1, h⟩ := g_okk h
  obtain ⟨⟨r3, m2⟩, qm2, h⟩ := g_bd h
  replace h := g_nm (y := m2) (g_nm (y := r3) h rfl) rfl
  refine v_callV (pc := 87) C 36 rfl mf_X8_is clX8 rfl im_X8_is lm_ScopeGraphModel_249 (c_X8_is C.2.2.2.2.2.2.2.2.2.2.2 qm2) (by decide) rfl (g_oB o1) (Nat.le_of_ble_eq_true rfl) ⟨Nat.zero_le _, Nat.zero_le _⟩ rfl ?_
  change gV X w 0 0 (gR X w (some (.int rr)) rm) 2 90 [(0, .ref x0), (1, .int x1)] [.int r3] m2
  refine v_if_ne (pc := 90) C 37 98 rfl (by decide) (fun c5 => ?_) (fun c5 => ?_)
  · replace h := g_ifF c5 h
    refine v_aload_n (pc := 98) C 41 0 rfl rfl rfl ?_
    refine v_dup (pc := 99) C 42 rfl rfl ?_
    obtain ⟨o6, h⟩ := g_okk h
    refine v_getI (pc := 100) C 43 rfl lf_ScopeGraphModel_217.get (g_oB o6) rfl ?_
    refine v_iconst (pc := 103) C 44 1 rfl (by decide) ?_
    refine v_isub (pc := 104) C 45 rfl ?_
    refine v_putI (pc := 105) C 46 rfl lf_ScopeGraphModel_217 (g_oB o6) rfl ?_
    refine v_topM (fun m7 em7 => ?_)
    replace h := g_nm h em7
    refine v_aload_n (pc := 108) C 47 0 rfl rfl rfl ?_
    refine v_dup (pc := 109) C 48 rfl rfl ?_
    refine v_getI (pc := 110) C 49 rfl lf_ScopeGraphModel_214.get (g_oB o6) rfl ?_
    refine v_iconst (pc := 113) C 50 1 rfl (by decide) ?_
    refine v_isub (pc := 114) C 51 rfl ?_
    refine v_putI (pc := 115) C 52 rfl lf_ScopeGraphModel_214 (g_oB o6) rfl ?_
    refine v_topM (fun m8 em8 => ?_)
    replace h := g_nm h em8
    refine v_aload_n (pc := 118) C 53 0 rfl rfl rfl ?_
    refine v_aload_n (pc := 119) C 54 0 rfl rfl rfl ?_
    obtain ⟨t9, qt9, h⟩ := g_bd h
    refine v_getR (pc := 120) C 55 rfl lf_ScopeGraphModel_92 (g_oB o6) rfl qt9 ?_
    refine v_iload_n (pc := 123) C 56 1 rfl rfl rfl ?_
    obtain ⟨b10, h⟩ := g_okk h
    refine v_iald' (pc := 124) C 57 rfl b10 ?_
    refine v_putI (pc := 125) C 58 rfl lf_ScopeGraphModel_220 (g_oB o6) rfl ?_
    refine v_topM (fun m11 em11 => ?_)
    replace h := g_nm h em11
    refine v_aload_n (pc := 128) C 59 0 rfl rfl rfl ?_
    refine v_iconst (pc := 129) C 60 1 rfl (by decide) ?_
    refine v_putI (pc := 130) C 61 rfl lf_ScopeGraphModel_261 (g_oB o6) rfl ?_
    refine v_topM (fun m12 em12 => ?_)
    replace h := g_nm h em12
    refine v_aload_n (pc := 133) C 62 0 rfl rfl rfl ?_
    obtain ⟨⟨r14, m13⟩, qm13, h⟩ := g_bd h
    replace h := g_nm (y := m13) (g_nm (y := r14) h rfl) rfl
    refine v_callV (pc := 134) C 63 rfl mf_X8_next clX8 rfl im_X8_next lm_ScopeGraphModel_229 (c_X8_next C.2.2.2.2.2.2.2.2.2.2.2 qm13) (by decide) rfl (g_oB o6) (Nat.le_of_ble_eq_true rfl) ⟨Nat.zero_le _, Nat.zero_le _⟩ rfl ?_
    change gV X w 0 0 (gR X w (some (.int rr)) rm) 2 137 [(0, .ref x0), (1, .int x1)] [.int r14] m13
    obtain ⟨o16, h⟩ := g_okk h
    obtain ⟨rfl, rfl⟩ := g_so h
    exact v_zret (pc := 137) C 64 rfl hr (g_zB o16)
  · replace h := g_ifT c5 h
    refine v_aload_n (pc := 93) C 38 0 rfl rfl rfl ?_
    obtain ⟨o17, h⟩ := g_okk h
    obtain ⟨⟨r19, m18⟩, qm18, h⟩ := g_bd h
    replace h := g_nm (y := m18) (g_nm (y := r19) h rfl) rfl
    refine v_callV (pc := 94) C 39 rfl mf_X8_odd clX8 rfl im_X8_odd lm_ScopeGraphModel_239 (c_X8_odd C.2.2.2.2.2.2.2.2.2.2.2 qm18) (by decide) rfl (g_oB o17) (Nat.le_of_ble_eq_true rfl) ⟨Nat.zero_le _, Nat.zero_le _⟩ rfl ?_
    change gV X w 0 0 (gR X w (some (.int rr)) rm) 2 97 [(0, .ref x0), (1, .int x1)] [.int r19] m18
    obtain ⟨o21, h⟩ := g_okk h
    obtain ⟨rfl, rfl⟩ := g_so h
    exact v_zret (pc := 97) C 40 rfl hr (g_zB o21)
def b_X8_ends_69 (sh : List gS) (F : Nat) (x0 : Nat) (x1 : Int32) (m : gM) : Option (Int32 × gM) :=
  g_if (oB sh x0 8) ((m.2.2 x0 43).bind (fun t2 => g_if (aB sh t2 .int x1) (if (m.1 t2 (x1).toNatClampNeg) = (2 : Int32) then (b_X8_ends_87 sh F x0 x1 41 x0 m) else (b_X8_ends_87 sh F x0 x1 125 x0 m))))
set_option maxRecDepth 100000 in
set_option maxHeartbeats 4000000 in
theorem tb_X8_ends_69 {X : gX} {w : gW} {rr : Int32} {rm : gM} (C : gC X w K_X8_ends 2 RX8 3) (hr : X.2.2.2.2.2.2.2.2.1.sig.returnType = (some .boolean)) {F : Nat} {x0 : Nat} {x1 : Int32} {m : gM} (h : b_X8_ends_69 w.2.2.2.2.1 F x0 x1 m = some (rr, rm)) : gV X w 0 0 (gR X w (some (.int rr)) rm) 2 69 [(0, .ref x0), (1, .int x1)] [] m := by
  unfold b_X8_ends_69 at h
  refine v_aload_n (pc := 69) C 26 0 rfl rfl rfl ?_
  refine v_aload_n (pc := 70) C 27 0 rfl rfl rfl ?_
  obtain ⟨o1, h⟩ := g_okk h
  obtain ⟨t2, qt2, h⟩ := g_bd h
  refine v_getR (pc := 71) C 28 rfl lf_ScopeGraphModel_89 (g_oB o1) rfl qt2 ?_
  refine v_iload_n (pc := 74) C 29 1 rfl rfl rfl ?_
  obtain ⟨b3, h⟩ := g_okk h
  refine v_iald' (pc := 75) C 30 rfl b3 ?_
  refine v_iconst (pc := 76) C 31 2 rfl (by decide) ?_
  refine v_icmp_ne (pc := 77) C 32 85 rfl (by decide) (fun c4 => ?_) (fun c4 => ?_)
  · replace h := g_ifF c4 h
    refine v_bipush (pc := 85) C 35 125 rfl (by decide) ?_
    refine v_sub [(0, .ref x0), (1, .int x1)] [0, 1] rfl ?_
    exact tb_X8_ends_87 (F := F) C hr h
  · replace h := g_ifT c4 h
    refine v_bipush (pc := 80) C 33 41 rfl (by decide) ?_
    refine v_goto (pc := 82) C 34 87 rfl (by decide) ?_
    refine v_sub [(0, .ref x0), (1, .int x1)] [0, 1] rfl ?_
    exact tb_X8_ends_87 (F := F) C hr h
def f_X8_ends (sh : List gS) (F : Nat) (x0 : Nat) (m : gM) : Option (Int32 × gM) :=
  g_if (oB sh x0 8) (nm ((m.1 x0 47) - (1 : Int32)) (fun v2 => (m.2.2 x0 43).bind (fun t3 => g_if (aB sh t3 .int v2) (if (m.1 t3 (v2).toNatClampNeg) = 1 then ((f_X8_is sh F x0 59 m).bind (fun q8 => nm q8.1 (fun r7 => nm q8.2 (fun m6 => if r7 = 0 then ((f_X8_odd sh F x0 m6).bind (fun q17 => nm q17.1 (fun r16 => nm q17.2 (fun m15 => g_if (zB r16) (some (r16, m15)))))) else (nm (gsI m6 x0 47 ((m6.1 x0 47) - (1 : Int32))) (fun m10 => (f_X8_next sh F x0 m10).bind (fun q13 => nm q13.1 (fun r12 => nm q13.2 (fun m11 => g_if (zB r12) (some (r12, m11))))))))))) else (if (m.1 t3 (v2).toNatClampNeg) = 2 then (b_X8_ends_69 sh F x0 v2 m) else (if (m.1 t3 (v2).toNatClampNeg) = 3 then (b_X8_ends_69 sh F x0 v2 m) else ((f_X8_is sh F x0 44 m).bind (fun q23 => nm q23.1 (fun r22 => nm q23.2 (fun m21 => if r22 = 0 then (if (m21.1 x0 38) = (17 : Int32) then ((m21.2.2 x0 44).bind (fun t26 => g_if (aB sh t26 .int v2) (nm (gsI m21 x0 49 (m21.1 t26 (v2).toNatClampNeg)) (fun m28 => nm (gsI m28 x0 47 ((m28.1 x0 47) - (1 : Int32))) (fun m29 => (f_X8_next sh F x0 m29).bind (fun q32 => nm q32.1 (fun r31 => nm q32.2 (fun m30 => if r31 = 0 then (some (0, m30)) else ((m30.2.2 x0 46).bind (fun t34 => g_if (aB sh t34 .int v2) ((f_X8_body sh F x0 (m30.1 t34 (v2).toNatClampNeg) m30).bind (fun q38 => nm q38.1 (fun r37 => nm q38.2 (fun m36 => if r37 = 0 then (some (0, m36)) else (some (1, m36)))))))))))))))) else ((f_X8_odd sh F x0 m21).bind (fun q42 => nm q42.1 (fun r41 => nm q42.2 (fun m40 => g_if (zB r41) (some (r41, m40))))))) else ((f_X8_next sh F x0 m21).bind (fun q46 => nm q46.1 (fun r45 => nm q46.2 (fun m44 => if r45 = 0 then (some (0, m44)) else ((f_X8_bind sh F x0 m44).bind (fun q50 => nm q50.1 (fun r49 => nm q50.2 (fun m48 => if r49 = 0 then (some (0, m48)) else (some (1, m48))))))))))))))))))))
set_option maxRecDepth 100000 in
set_option maxHeartbeats 4000000 in
theorem tf_X8_ends {X : gX} {w : gW} {rr : Int32} {rm : gM} (C : gC X w K_X8_ends 2 RX8 3) (hr : X.2.2.2.2.2.2.2.2.1.sig.returnType = (some .boolean)) {F : Nat} {x0 : Nat} {m : gM} (h : f_X8_ends w.2.2.2.2.1 F x0 m = some (rr, rm)) : gV X w 0 0 (gR X w (some (.int rr)) rm) 2 0 [(0, .ref x0)] [] m := by
  unfold f_X8_ends at h
  refine v_aload_n (pc := 0) C 0 0 rfl rfl rfl ?_
  obtain ⟨o1, h⟩ := g_okk h
  refine v_getI (pc := 1) C 1 rfl lf_ScopeGraphModel_217.get (g_oB o1) rfl ?_
  refine v_iconst (pc := 4) C 2 1 rfl (by decide) ?_
  refine v_isub (pc := 5) C 3 rfl ?_
  refine v_topI (fun v2 ev2 => ?_)
  replace h := g_nm h ev2
  refine v_istore_n (pc := 6) (lv' := [(1, .int v2), (0, .ref x0)]) C 4 rfl rfl (by decide) rfl ?_
  refine v_aload_n (pc := 7) C 5 1 rfl rfl rfl ?_
  obtain ⟨t3, qt3, h⟩ := g_bd h
  refine v_getR (pc := 8) C 6 rfl lf_ScopeGraphModel_89 (g_oB o1) rfl qt3 ?_
  refine v_iload_n (pc := 11) C 7 0 rfl rfl rfl ?_
  obtain ⟨b4, h⟩ := g_okk h
  refine v_iald' (pc := 12) C 8 rfl b4 ?_
  by_cases c5 : (m.1 t3 (v2).toNatClampNeg) = 1
  · replace h := g_ifT c5 h
    refine v_tableIn (pc := 13) C 9 40 rfl (by rw [c5]; decide) (by rw [c5]; decide) (by rw [c5]; rfl) (by decide) ?_
    refine v_aload_n (pc := 40) C 10 1 rfl rfl rfl ?_
    refine v_bipush (pc := 41) C 11 59 rfl (by decide) ?_
    obtain ⟨⟨r7, m6⟩, qm6, h⟩ := g_bd h
    replace h := g_nm (y := m6) (g_nm (y := r7) h rfl) rfl
    refine v_callV (pc := 43) C 12 rfl mf_X8_is clX8 rfl im_X8_is lm_ScopeGraphModel_249 (c_X8_is C.2.2.2.2.2.2.2.2.2.2.2 qm6) (by decide) rfl (g_oB o1) (Nat.le_of_ble_eq_true rfl) ⟨Nat.zero_le _, Nat.zero_le _⟩ rfl ?_
    change gV X w 0 0 (gR X w (some (.int rr)) rm) 2 46 [(1, .int v2), (0, .ref x0)] [.int r7] m6
    refine v_if_ne (pc := 46) C 13 54 rfl (by decide) (fun c9 => ?_) (fun c9 => ?_)
    · replace h := g_ifF c9 h
      refine v_aload_n (pc := 54) C 17 1 rfl rfl rfl ?_
      refine v_dup (pc := 55) C 18 rfl rfl ?_
      refine v_getI (pc := 56) C 19 rfl lf_ScopeGraphModel_217.get (g_oB o1) rfl ?_
      refine v_iconst (pc := 59) C 20 1 rfl (by decide) ?_
      refine v_isub (pc := 60) C 21 rfl ?_
      refine v_putI (pc := 61) C 22 rfl lf_ScopeGraphModel_217 (g_oB o1) rfl ?_
      refine v_topM (fun m10 em10 => ?_)
      replace h := g_nm h em10
      refine v_aload_n (pc := 64) C 23 1 rfl rfl rfl ?_
      obtain ⟨⟨r12, m11⟩, qm11, h⟩ := g_bd h
      replace h := g_nm (y := m11) (g_nm (y := r12) h rfl) rfl
      refine v_callV (pc := 65) C 24 rfl mf_X8_next clX8 rfl im_X8_next lm_ScopeGraphModel_229 (c_X8_next C.2.2.2.2.2.2.2.2.2.2.2 qm11) (by decide) rfl (g_oB o1) (Nat.le_of_ble_eq_true rfl) ⟨Nat.zero_le _, Nat.zero_le _⟩ rfl ?_
      change gV X w 0 0 (gR X w (some (.int rr)) rm) 2 68 [(1, .int v2), (0, .ref x0)] [.int r12] m11
      obtain ⟨o14, h⟩ := g_okk h
      obtain ⟨rfl, rfl⟩ := g_so h
      exact v_zret (pc := 68) C 25 rfl hr (g_zB o14)
    · replace h := g_ifT c9 h
      refine v_aload_n (pc := 49) C 14 1 rfl rfl rfl ?_
      obtain ⟨⟨r16, m15⟩, qm15, h⟩ := g_bd h
      replace h := g_nm (y := m15) (g_nm (y := r16) h rfl) rfl
      refine v_callV (pc := 50) C 15 rfl mf_X8_odd clX8 rfl im_X8_odd lm_ScopeGraphModel_239 (c_X8_odd C.2.2.2.2.2.2.2.2.2.2.2 qm15) (by decide) rfl (g_oB o1) (Nat.le_of_ble_eq_true rfl) ⟨Nat.zero_le _, Nat.zero_le _⟩ rfl ?_
      change gV X w 0 0 (gR X w (some (.int rr)) rm) 2 53 [(1, .int v2), (0, .ref x0)] [.int r16] m15
      obtain ⟨o18, h⟩ := g_okk h
      obtain ⟨rfl, rfl⟩ := g_so h
      exact v_zret (pc := 53) C 16 rfl hr (g_zB o18)
  · replace h := g_ifF c5 h
    have zc5 := g_tne (n := 1) (by decide) c5
    by_cases c19 : (m.1 t3 (v2).toNatClampNeg) = 2
    · replace h := g_ifT c19 h
      refine v_tableIn (pc := 13) C 9 69 rfl (by rw [c19]; decide) (by rw [c19]; decide) (by rw [c19]; rfl) (by decide) ?_
      refine v_sub [(0, .ref x0), (1, .int v2)] [1, 0] rfl ?_
      exact tb_X8_ends_69 (F := F) C hr h
    · replace h := g_ifF c19 h
      have zc19 := g_tne (n := 2) (by decide) c19
      by_cases c20 : (m.1 t3 (v2).toNatClampNeg) = 3
      · replace h := g_ifT c20 h
        refine v_tableIn (pc := 13) C 9 69 rfl (by rw [c20]; decide) (by rw [c20]; decide) (by rw [c20]; rfl) (by decide) ?_
        refine v_sub [(0, .ref x0), (1, .int v2)] [1, 0] rfl ?_
        exact tb_X8_ends_69 (F := F) C hr h
      · replace h := g_ifF c20 h
        have zc20 := g_tne (n := 3) (by decide) c20
        refine v_tableOut (pc := 13) C 9 138 rfl (by omega) (by decide) ?_
        refine v_aload_n (pc := 138) C 65 1 rfl rfl rfl ?_
        refine v_bipush (pc := 139) C 66 44 rfl (by decide) ?_
        obtain ⟨⟨r22, m21⟩, qm21, h⟩ := g_bd h
        replace h := g_nm (y := m21) (g_nm (y := r22) h rfl) rfl
        refine v_callV (pc := 141) C 67 rfl mf_X8_is clX8 rfl im_X8_is lm_ScopeGraphModel_249 (c_X8_is C.2.2.2.2.2.2.2.2.2.2.2 qm21) (by decide) rfl (g_oB o1) (Nat.le_of_ble_eq_true rfl) ⟨Nat.zero_le _, Nat.zero_le _⟩ rfl ?_
        change gV X w 0 0 (gR X w (some (.int rr)) rm) 2 144 [(1, .int v2), (0, .ref x0)] [.int r22] m21
        refine v_if_eq (pc := 144) C 68 167 rfl (by decide) (fun c24 => ?_) (fun c24 => ?_)
        · replace h := g_ifT c24 h
          refine v_aload_n (pc := 167) C 79 1 rfl rfl rfl ?_
          refine v_getI (pc := 168) C 80 rfl lf_ScopeGraphModel_187.get (g_oB o1) rfl ?_
          refine v_bipush (pc := 171) C 81 17 rfl (by decide) ?_
          refine v_icmp_eq (pc := 173) C 82 181 rfl (by decide) (fun c25 => ?_) (fun c25 => ?_)
          · replace h := g_ifT c25 h
            refine v_aload_n (pc := 181) C 86 1 rfl rfl rfl ?_
            refine v_aload_n (pc := 182) C 87 1 rfl rfl rfl ?_
            obtain ⟨t26, qt26, h⟩ := g_bd h
            refine v_getR (pc := 183) C 88 rfl lf_ScopeGraphModel_92 (g_oB o1) rfl qt26 ?_
            refine v_iload_n (pc := 186) C 89 0 rfl rfl rfl ?_
            obtain ⟨b27, h⟩ := g_okk h
            refine v_iald' (pc := 187) C 90 rfl b27 ?_
            refine v_putI (pc := 188) C 91 rfl lf_ScopeGraphModel_220 (g_oB o1) rfl ?_
            refine v_topM (fun m28 em28 => ?_)
            replace h := g_nm h em28
            refine v_aload_n (pc := 191) C 92 1 rfl rfl rfl ?_
            refine v_dup (pc := 192) C 93 rfl rfl ?_
            refine v_getI (pc := 193) C 94 rfl lf_ScopeGraphModel_217.get (g_oB o1) rfl ?_
            refine v_iconst (pc := 196) C 95 1 rfl (by decide) ?_
            refine v_isub (pc := 197) C 96 rfl ?_
            refine v_putI (pc := 198) C 97 rfl lf_ScopeGraphModel_217 (g_oB o1) rfl ?_
            refine v_topM (fun m29 em29 => ?_)
            replace h := g_nm h em29
            refine v_aload_n (pc := 201) C 98 1 rfl rfl rfl ?_
            obtain ⟨⟨r31, m30⟩, qm30, h⟩ := g_bd h
            replace h := g_nm (y := m30) (g_nm (y := r31) h rfl) rfl
            refine v_callV (pc := 202) C 99 rfl mf_X8_next clX8 rfl im_X8_next lm_ScopeGraphModel_229 (c_X8_next C.2.2.2.2.2.2.2.2.2.2.2 qm30) (by decide) rfl (g_oB o1) (Nat.le_of_ble_eq_true rfl) ⟨Nat.zero_le _, Nat.zero_le _⟩ rfl ?_
            change gV X w 0 0 (gR X w (some (.int rr)) rm) 2 205 [(1, .int v2), (0, .ref x0)] [.int r31] m30
            refine v_if_eq (pc := 205) C 100 225 rfl (by decide) (fun c33 => ?_) (fun c33 => ?_)
            · replace h := g_ifT c33 h
              refine v_iconst (pc := 225) C 110 0 rfl (by decide) ?_
              obtain ⟨rfl, rfl⟩ := g_so h
              exact v_zret (pc := 226) C 111 rfl hr (by decide)
            · replace h := g_ifF c33 h
              refine v_aload_n (pc := 208) C 101 1 rfl rfl rfl ?_
              refine v_aload_n (pc := 209) C 102 1 rfl rfl rfl ?_
              obtain ⟨t34, qt34, h⟩ := g_bd h
              refine v_getR (pc := 210) C 103 rfl lf_ScopeGraphModel_98 (g_oB o1) rfl qt34 ?_
              refine v_iload_n (pc := 213) C 104 0 rfl rfl rfl ?_
              obtain ⟨b35, h⟩ := g_okk h
              refine v_iald' (pc := 214) C 105 rfl b35 ?_
              obtain ⟨⟨r37, m36⟩, qm36, h⟩ := g_bd h
              replace h := g_nm (y := m36) (g_nm (y := r37) h rfl) rfl
              refine v_callV (pc := 215) C 106 rfl mf_X8_body clX8 rfl im_X8_body lm_ScopeGraphModel_277 (c_X8_body C.2.2.2.2.2.2.2.2.2.2.2 qm36) (by decide) rfl (g_oB o1) (Nat.le_of_ble_eq_true rfl) ⟨Nat.zero_le _, Nat.zero_le _⟩ rfl ?_
              change gV X w 0 0 (gR X w (some (.int rr)) rm) 2 218 [(1, .int v2), (0, .ref x0)] [.int r37] m36
              refine v_if_eq (pc := 218) C 107 225 rfl (by decide) (fun c39 => ?_) (fun c39 => ?_)
              · replace h := g_ifT c39 h
                refine v_iconst (pc := 225) C 110 0 rfl (by decide) ?_
                obtain ⟨rfl, rfl⟩ := g_so h
                exact v_zret (pc := 226) C 111 rfl hr (by decide)
              · replace h := g_ifF c39 h
                refine v_iconst (pc := 221) C 108 1 rfl (by decide) ?_
                refine v_goto (pc := 222) C 109 226 rfl (by decide) ?_
                obtain ⟨rfl, rfl⟩ := g_so h
                exact v_zret (pc := 226) C 111 rfl hr (by decide)
          · replace h := g_ifF c25 h
            refine v_aload_n (pc := 176) C 83 1 rfl rfl rfl ?_
            obtain ⟨⟨r41, m40⟩, qm40, h⟩ := g_bd h
            replace h := g_nm (y := m40) (g_nm (y := r41) h rfl) rfl
            refine v_callV (pc := 177) C 84 rfl mf_X8_odd clX8 rfl im_X8_odd lm_ScopeGraphModel_239 (c_X8_odd C.2.2.2.2.2.2.2.2.2.2.2 qm40) (by decide) rfl (g_oB o1) (Nat.le_of_ble_eq_true rfl) ⟨Nat.zero_le _, Nat.zero_le _⟩ rfl ?_
            change gV X w 0 0 (gR X w (some (.int rr)) rm) 2 180 [(1, .int v2), (0, .ref x0)] [.int r41] m40
            obtain ⟨o43, h⟩ := g_okk h
            obtain ⟨rfl, rfl⟩ := g_so h
            exact v_zret (pc := 180) C 85 rfl hr (g_zB o43)
        · replace h := g_ifF c24 h
          refine v_aload_n (pc := 147) C 69 1 rfl rfl rfl ?_
          obtain ⟨⟨r45, m44⟩, qm44, h⟩ := g_bd h
          replace h := g_nm (y := m44) (g_nm (y := r45) h rfl) rfl
          refine v_callV (pc := 148) C 70 rfl mf_X8_next clX8 rfl im_X8_next lm_ScopeGraphModel_229 (c_X8_next C.2.2.2.2.2.2.2.2.2.2.2 qm44) (by decide) rfl (g_oB o1) (Nat.le_of_ble_eq_true rfl) ⟨Nat.zero_le _, Nat.zero_le _⟩ rfl ?_
          change gV X w 0 0 (gR X w (some (.int rr)) rm) 2 151 [(1, .int v2), (0, .ref x0)] [.int r45] m44
          refine v_if_eq (pc := 151) C 71 165 rfl (by decide) (fun c47 => ?_) (fun c47 => ?_)
          · replace h := g_ifT c47 h
            refine v_iconst (pc := 165) C 77 0 rfl (by decide) ?_
            obtain ⟨rfl, rfl⟩ := g_so h
            exact v_zret (pc := 166) C 78 rfl hr (by decide)
          · replace h := g_ifF c47 h
            refine v_aload_n (pc := 154) C 72 1 rfl rfl rfl ?_
            obtain ⟨⟨r49, m48⟩, qm48, h⟩ := g_bd h
            replace h := g_nm (y := m48) (g_nm (y := r49) h rfl) rfl
            refine v_callV (pc := 155) C 73 rfl mf_X8_bind clX8 rfl im_X8_bind lm_ScopeGraphModel_280 (c_X8_bind C.2.2.2.2.2.2.2.2.2.2.2 qm48) (by decide) rfl (g_oB o1) (Nat.le_of_ble_eq_true rfl) ⟨Nat.zero_le _, Nat.zero_le _⟩ rfl ?_
            change gV X w 0 0 (gR X w (some (.int rr)) rm) 2 158 [(1, .int v2), (0, .ref x0)] [.int r49] m48
            refine v_if_eq (pc := 158) C 74 165 rfl (by decide) (fun c51 => ?_) (fun c51 => ?_)
            · replace h := g_ifT c51 h
              refine v_iconst (pc := 165) C 77 0 rfl (by decide) ?_
              obtain ⟨rfl, rfl⟩ := g_so h
              exact v_zret (pc := 166) C 78 rfl hr (by decide)
            · replace h := g_ifF c51 h
              refine v_iconst (pc := 161) C 75 1 rfl (by decide) ?_
              refine v_goto (pc := 162) C 76 166 rfl (by decide) ?_
              obtain ⟨rfl, rfl⟩ := g_so h
              exact v_zret (pc := 166) C 78 rfl hr (by decide)
theorem c_X8_ends {l : Launch} {w : gW} {rr : Int32} {rm : gM} (hJ : gJok w) {F : Nat} {x0 : Nat} {m : gM} (h : f_X8_ends w.2.2.2.2.1 F x0 m = some (rr, rm)) : gMet l 3 yX8_ends cX8_ends 2 (some .boolean) w [.ref x0] m (some (.int rr)) rm :=
  gMet.of hJ mf_X8_ends dk_X8_ends (Nat.le_of_ble_eq_true rfl) (fun X _ C hr => tf_X8_ends (F := F) C hr h)
def f_X8_fun (sh : List gS) (F : Nat) (x0 : Nat) (m : gM) : Option (Int32 × gM) :=
  g_if (oB sh x0 8) ((f_X8_newScope sh F x0 (m.1 x0 49) 2 (m.1 x0 40) m).bind (fun q4 => nm q4.1 (fun r3 => nm q4.2 (fun m2 => if r3 = 0 then (some (0, m2)) else ((f_X8_next sh F x0 m2).bind (fun q8 => nm q8.1 (fun r7 => nm q8.2 (fun m6 => if r7 = 0 then (some (0, m6)) else (if (m6.1 x0 38) = (1 : Int32) then (nm ((m6.1 x0 10) - (1 : Int32)) (fun v11 => (f_X8_declare sh F x0 v11 (-1) m6).bind (fun q14 => nm q14.1 (fun r13 => nm q14.2 (fun m12 => if r13 = 0 then (some (0, m12)) else ((f_X8_next sh F x0 m12).bind (fun q18 => nm q18.1 (fun r17 => nm q18.2 (fun m16 => if r17 = 0 then (some (0, m16)) else ((f_X8_body sh F x0 v11 m16).bind (fun q22 => nm q22.1 (fun r21 => nm q22.2 (fun m20 => g_if (zB r21) (some (r21, m20))))))))))))))) else ((f_X8_odd sh F x0 m6).bind (fun q26 => nm q26.1 (fun r25 => nm q26.2 (fun m24 => g_if (zB r25) (some (r25, m24)))))))))))))))
set_option maxRecDepth 100000 in
set_option maxHeartbeats 4000000 in
theorem tf_X8_fun {X : gX} {w : gW} {rr : Int32} {rm : gM} (C : gC X w K_X8_fun 2 RX8 3) (hr : X.2.2.2.2.2.2.2.2.1.sig.returnType = (some .boolean)) {F : Nat} {x0 : Nat} {m : gM} (h : f_X8_fun w.2.2.2.2.1 F x0 m = some (rr, rm)) : gV X w 0 0 (gR X w (some (.int rr)) rm) 2 0 [(0, .ref x0)] [] m := by
  unfold f_X8_fun at h
  refine v_aload_n (pc := 0) C 0 0 rfl rfl rfl ?_
  refine v_aload_n (pc := 1) C 1 0 rfl rfl rfl ?_
  obtain ⟨o1, h⟩ := g_okk h
  refine v_getI (pc := 2) C 2 rfl lf_ScopeGraphModel_220.get (g_oB o1) rfl ?_
  refine v_iconst (pc := 5) C 3 2 rfl (by decide) ?_
  refine v_aload_n (pc := 6) C 4 0 rfl rfl rfl ?_
  refine v_getI (pc := 7) C 5 rfl lf_ScopeGraphModel_184.get (g_oB o1) rfl ?_
  obtain ⟨⟨r3, m2⟩, qm2, h⟩ := g_bd h
  replace h := g_nm (y := m2) (g_nm (y := r3) h rfl) rfl
  refine v_callV (pc := 10) C 6 rfl mf_X8_newScope clX8 rfl im_X8_newScope lm_ScopeGraphModel_245 (c_X8_newScope C.2.2.2.2.2.2.2.2.2.2.2 qm2) (by decide) rfl (g_oB o1) (Nat.le_of_ble_eq_true rfl) ⟨Nat.zero_le _, Nat.zero_le _⟩ rfl ?_
  change gV X w 0 0 (gR X w (some (.int rr)) rm) 2 13 [(0, .ref x0)] [.int r3] m2
  refine v_if_eq (pc := 13) C 7 23 rfl (by decide) (fun c5 => ?_) (fun c5 => ?_)
  · replace h := g_ifT c5 h
    refine v_iconst (pc := 23) C 11 0 rfl (by decide) ?_
    obtain ⟨rfl, rfl⟩ := g_so h
    exact v_zret (pc := 24) C 12 rfl hr (by decide)
  · replace h := g_ifF c5 h
    refine v_aload_n (pc := 16) C 8 0 rfl rfl rfl ?_
    obtain ⟨⟨r7, m6⟩, qm6, h⟩ := g_bd h
    replace h := g_nm (y := m6) (g_nm (y := r7) h rfl) rfl
    refine v_callV (pc := 17) C 9 rfl mf_X8_next clX8 rfl im_X8_next lm_ScopeGraphModel_229 (c_X8_next C.2.2.2.2.2.2.2.2.2.2.2 qm6) (by decide) rfl (g_oB o1) (Nat.le_of_ble_eq_true rfl) ⟨Nat.zero_le _, Nat.zero_le _⟩ rfl ?_
    change gV X w 0 0 (gR X w (some (.int rr)) rm) 2 20 [(0, .ref x0)] [.int r7] m6
    refine v_if_ne (pc := 20) C 10 25 rfl (by decide) (fun c9 => ?_) (fun c9 => ?_)
    · replace h := g_ifF c9 h
      refine v_aload_n (pc := 25) C 13 0 rfl rfl rfl ?_
      refine v_getI (pc := 26) C 14 rfl lf_ScopeGraphModel_187.get (g_oB o1) rfl ?_
      refine v_iconst (pc := 29) C 15 1 rfl (by decide) ?_
      refine v_icmp_eq (pc := 30) C 16 38 rfl (by decide) (fun c10 => ?_) (fun c10 => ?_)
      · replace h := g_ifT c10 h
        refine v_aload_n (pc := 38) C 20 0 rfl rfl rfl ?_
        refine v_getI (pc := 39) C 21 rfl lf_ScopeGraphModel_25.get (g_oB o1) rfl ?_
        refine v_iconst (pc := 42) C 22 1 rfl (by decide) ?_
        refine v_isub (pc := 43) C 23 rfl ?_
        refine v_topI (fun v11 ev11 => ?_)
        replace h := g_nm h ev11
        refine v_istore_n (pc := 44) (lv' := [(1, .int v11), (0, .ref x0)]) C 24 rfl rfl (by decide) rfl ?_
        refine v_aload_n (pc := 45) C 25 1 rfl rfl rfl ?_
        refine v_iload_n (pc := 46) C 26 0 rfl rfl rfl ?_
        refine v_iconst (pc := 47) C 27 (-1) rfl (by decide) ?_
        obtain ⟨⟨r13, m12⟩, qm12, h⟩ := g_bd h
        replace h := g_nm (y := m12) (g_nm (y := r13) h rfl) rfl
        refine v_callV (pc := 48) C 28 rfl mf_X8_declare clX8 rfl im_X8_declare lm_ScopeGraphModel_242 (c_X8_declare C.2.2.2.2.2.2.2.2.2.2.2 qm12) (by decide) rfl (g_oB o1) (Nat.le_of_ble_eq_true rfl) ⟨Nat.zero_le _, Nat.zero_le _⟩ rfl ?_
        change gV X w 0 0 (gR X w (some (.int rr)) rm) 2 51 [(1, .int v11), (0, .ref x0)] [.int r13] m12
        refine v_if_eq (pc := 51) C 29 61 rfl (by decide) (fun c15 => ?_) (fun c15 => ?_)
        · replace h := g_ifT c15 h
          refine v_iconst (pc := 61) C 33 0 rfl (by decide) ?_
          obtain ⟨rfl, rfl⟩ := g_so h
          exact v_zret (pc := 62) C 34 rfl hr (by decide)
        · replace h := g_ifF c15 h
          refine v_aload_n (pc := 54) C 30 1 rfl rfl rfl ?_
          obtain ⟨⟨r17, m16⟩, qm16, h⟩ := g_bd h
          replace h := g_nm (y := m16) (g_nm (y := r17) h rfl) rfl
          refine v_callV (pc := 55) C 31 rfl mf_X8_next clX8 rfl im_X8_next lm_ScopeGraphModel_229 (c_X8_next C.2.2.2.2.2.2.2.2.2.2.2 qm16) (by decide) rfl (g_oB o1) (Nat.le_of_ble_eq_true rfl) ⟨Nat.zero_le _, Nat.zero_le _⟩ rfl ?_
          change gV X w 0 0 (gR X w (some (.int rr)) rm) 2 58 [(1, .int v11), (0, .ref x0)] [.int r17] m16
          refine v_if_ne (pc := 58) C 32 63 rfl (by decide) (fun c19 => ?_) (fun c19 => ?_)
          · replace h := g_ifF c19 h
            refine v_aload_n (pc := 63) C 35 1 rfl rfl rfl ?_
            refine v_iload_n (pc := 64) C 36 0 rfl rfl rfl ?_
            obtain ⟨⟨r21, m20⟩, qm20, h⟩ := g_bd h
            replace h := g_nm (y := m20) (g_nm (y := r21) h rfl) rfl
            refine v_callV (pc := 65) C 37 rfl mf_X8_body clX8 rfl im_X8_body lm_ScopeGraphModel_277 (c_X8_body C.2.2.2.2.2.2.2.2.2.2.2 qm20) (by decide) rfl (g_oB o1) (Nat.le_of_ble_eq_true rfl) ⟨Nat.zero_le _, Nat.zero_le _⟩ rfl ?_
            change gV X w 0 0 (gR X w (some (.int rr)) rm) 2 68 [(1, .int v11), (0, .ref x0)] [.int r21] m20
            obtain ⟨o23, h⟩ := g_okk h
            obtain ⟨rfl, rfl⟩ := g_so h
            exact v_zret (pc := 68) C 38 rfl hr (g_zB o23)
          · replace h := g_ifT c19 h
            refine v_iconst (pc := 61) C 33 0 rfl (by decide) ?_
            obtain ⟨rfl, rfl⟩ := g_so h
            exact v_zret (pc := 62) C 34 rfl hr (by decide)
      · replace h := g_ifF c10 h
        refine v_aload_n (pc := 33) C 17 0 rfl rfl rfl ?_
        obtain ⟨⟨r25, m24⟩, qm24, h⟩ := g_bd h
        replace h := g_nm (y := m24) (g_nm (y := r25) h rfl) rfl
        refine v_callV (pc := 34) C 18 rfl mf_X8_odd clX8 rfl im_X8_odd lm_ScopeGraphModel_239 (c_X8_odd C.2.2.2.2.2.2.2.2.2.2.2 qm24) (by decide) rfl (g_oB o1) (Nat.le_of_ble_eq_true rfl) ⟨Nat.zero_le _, Nat.zero_le _⟩ rfl ?_
        change gV X w 0 0 (gR X w (some (.int rr)) rm) 2 37 [(0, .ref x0)] [.int r25] m24
        obtain ⟨o27, h⟩ := g_okk h
        obtain ⟨rfl, rfl⟩ := g_so h
        exact v_zret (pc := 37) C 19 rfl hr (g_zB o27)
    · replace h := g_ifT c9 h
      refine v_iconst (pc := 23) C 11 0 rfl (by decide) ?_
      obtain ⟨rfl, rfl⟩ := g_so h
      exact v_zret (pc := 24) C 12 rfl hr (by decide)
theorem c_X8_fun {l : Launch} {w : gW} {rr : Int32} {rm : gM} (hJ : gJok w) {F : Nat} {x0 : Nat} {m : gM} (h : f_X8_fun w.2.2.2.2.1 F x0 m = some (rr, rm)) : gMet l 3 yX8_fun cX8_fun 2 (some .boolean) w [.ref x0] m (some (.int rr)) rm :=
  gMet.of hJ mf_X8_fun dk_X8_fun (Nat.le_of_ble_eq_true rfl) (fun X _ C hr => tf_X8_fun (F := F) C hr h)
def b_X8_exp_92 (sh : List gS) (F : Nat) (x0 : Nat) (m : gM) : Option (Int32 × gM) :=
  g_if (oB sh x0 8) ((f_X8_binds sh F x0 m).bind (fun q4 => nm q4.1 (fun r3 => nm q4.2 (fun m2 => g_if (zB r3) (some (r3, m2))))))
set_option maxRecDepth 100000 in
set_option maxHeartbeats 4000000 in
theorem tb_X8_exp_92 {X : gX} {w : gW} {rr : Int32} {rm : gM} (C : gC X w K_X8_exp 1 RX8 4) (hr : X.2.2.2.2.2.2.2.2.1.sig.returnType = (some .boolean)) {F : Nat} {x0 : Nat} {m : gM} (h : b_X8_exp_92 w.2.2.2.2.1 F x0 m = some (rr, rm)) : gV X w 0 0 (gR X w (some (.int rr)) rm) 1 92 [(0, .ref x0)] [] m := by
  unfold b_X8_exp_92 at h
  refine v_aload_n (pc := 92) C 48 0 rfl rfl rfl ?_
  obtain ⟨o1, h⟩ := g_okk h
  obtain ⟨⟨r3, m2⟩, qm2, h⟩ := g_bd h
  replace h := g_nm (y := m2) (g_nm (y := r3) h rfl) rfl
  refine v_callV (pc := 93) C 49 rfl mf_X8_binds clX8 rfl im_X8_binds lm_ScopeGraphModel_271 (c_X8_binds C.2.2.2.2.2.2.2.2.2.2.2 qm2) (by decide) rfl (g_oB o1) (Nat.le_of_ble_eq_true rfl) ⟨Nat.zero_le _, Nat.zero_le _⟩ rfl ?_
  change gV X w 0 0 (gR X w (some (.int rr)) rm) 1 96 [(0, .ref x0)] [.int r3] m2
  obtain ⟨o5, h⟩ := g_okk h
  obtain ⟨rfl, rfl⟩ := g_so h
  exact v_zret (pc := 96) C 50 rfl hr (g_zB o5)
def f_X8_exp (sh : List gS) (F : Nat) (x0 : Nat) (m : gM) : Option (Int32 × gM) :=
  g_if (oB sh x0 8) (if (m.1 x0 38) = (2 : Int32) then (nm (gsI m x0 51 ((m.1 x0 51) + (1 : Int32))) (fun m51 => (f_X8_next sh F x0 m51).bind (fun q54 => nm q54.1 (fun r53 => nm q54.2 (fun m52 => g_if (zB r53) (some (r53, m52))))))) else (if (m.1 x0 38) = (1 : Int32) then (nm (gsI m x0 51 ((m.1 x0 51) + (1 : Int32))) (fun m45 => nm (gsI m45 x0 50 0) (fun m46 => (f_X8_readLong sh F x0 m46).bind (fun q49 => nm q49.1 (fun r48 => nm q49.2 (fun m47 => g_if (zB r48) (some (r48, m47)))))))) else (if (m.1 x0 38) = (13 : Int32) then ((f_X8_fun sh F x0 m).bind (fun q43 => nm q43.1 (fun r42 => nm q43.2 (fun m41 => g_if (zB r42) (some (r42, m41)))))) else (if (m.1 x0 38) = (14 : Int32) then (b_X8_exp_92 sh F x0 m) else (if (m.1 x0 38) = (15 : Int32) then (b_X8_exp_92 sh F x0 m) else (if (m.1 x0 38) = (16 : Int32) then (b_X8_exp_92 sh F x0 m) else ((f_X8_is sh F x0 40 m).bind (fun q10 => nm q10.1 (fun r9 => nm q10.2 (fun m8 => if r9 = 0 then (if (m8.1 x0 51) = 0 then ((f_X8_odd sh F x0 m8).bind (fun q28 => nm q28.1 (fun r27 => nm q28.2 (fun m26 => g_if (zB r27) (some (r27, m26)))))) else ((f_X8_is sh F x0 43 m8).bind (fun q15 => nm q15.1 (fun r14 => nm q15.2 (fun m13 => if r14 = 0 then ((f_X8_ends sh F x0 m13).bind (fun q19 => nm q19.1 (fun r18 => nm q19.2 (fun m17 => g_if (zB r18) (some (r18, m17)))))) else (nm (gsI m13 x0 51 0) (fun m21 => (f_X8_next sh F x0 m21).bind (fun q24 => nm q24.1 (fun r23 => nm q24.2 (fun m22 => g_if (zB r23) (some (r23, m22)))))))))))) else ((f_X8_bracket sh F x0 m8).bind (fun q32 => nm q32.1 (fun r31 => nm q32.2 (fun m30 => if r31 = 0 then (some (0, m30)) else ((f_X8_open sh F x0 2 m30).bind (fun m34 => nm (gsI m34 x0 51 0) (fun m36 => (f_X8_next sh F x0 m36).bind (fun q39 => nm q39.1 (fun r38 => nm q39.2 (fun m37 => g_if (zB r38) (some (r38, m37))))))))))))))))))))))
set_option maxRecDepth 100000 in
set_option maxHeartbeats 4000000 in
theorem tf_X8_exp {X : gX} {w : gW} {rr : Int32} {rm : gM} (C : gC X w K_X8_exp 1 RX8 4) (hr : X.2.2.2.2.2.2.2.2.1.sig.returnType = (some .boolean)) {F : Nat} {x0 : Nat} {m : gM} (h : f_X8_exp w.2.2.2.2.1 F x0 m = some (rr, rm)) : gV X w 0 0 (gR X w (some (.int rr)) rm) 1 0 [(0, .ref x0)] [] m := by
  unfold f_X8_exp at h
  refine v_aload_n (pc := 0) C 0 0 rfl rfl rfl ?_
  obtain ⟨o1, h⟩ := g_okk h
  refine v_getI (pc := 1) C 1 rfl lf_ScopeGraphModel_187.get (g_oB o1) rfl ?_
  refine v_iconst (pc := 4) C 2 2 rfl (by decide) ?_
  refine v_icmp_ne (pc := 5) C 3 23 rfl (by decide) (fun c2 => ?_) (fun c2 => ?_)
  · replace h := g_ifF c2 h
    refine v_aload_n (pc := 23) C 13 0 rfl rfl rfl ?_
    refine v_getI (pc := 24) C 14 rfl lf_ScopeGraphModel_187.get (g_oB o1) rfl ?_
    refine v_iconst (pc := 27) C 15 1 rfl (by decide) ?_
    refine v_icmp_ne (pc := 28) C 16 51 rfl (by decide) (fun c3 => ?_) (fun c3 => ?_)
    · replace h := g_ifF c3 h
      refine v_aload_n (pc := 51) C 29 0 rfl rfl rfl ?_
      refine v_getI (pc := 52) C 30 rfl lf_ScopeGraphModel_187.get (g_oB o1) rfl ?_
      refine v_bipush (pc := 55) C 31 13 rfl (by decide) ?_
      refine v_icmp_ne (pc := 57) C 32 65 rfl (by decide) (fun c4 => ?_) (fun c4 => ?_)
      · replace h := g_ifF c4 h
        refine v_aload_n (pc := 65) C 36 0 rfl rfl rfl ?_
        refine v_getI (pc := 66) C 37 rfl lf_ScopeGraphModel_187.get (g_oB o1) rfl ?_
        refine v_bipush (pc := 69) C 38 14 rfl (by decide) ?_
        refine v_icmp_eq (pc := 71) C 39 92 rfl (by decide) (fun c5 => ?_) (fun c5 => ?_)
        · replace h := g_ifT c5 h
          refine v_sub [(0, .ref x0)] [0] rfl ?_
          exact tb_X8_exp_92 (F := F) C hr h
        · replace h := g_ifF c5 h
          refine v_aload_n (pc := 74) C 40 0 rfl rfl rfl ?_
          refine v_getI (pc := 75) C 41 rfl lf_ScopeGraphModel_187.get (g_oB o1) rfl ?_
          refine v_bipush (pc := 78) C 42 15 rfl (by decide) ?_
          refine v_icmp_eq (pc := 80) C 43 92 rfl (by decide) (fun c6 => ?_) (fun c6 => ?_)
          · replace h := g_ifT c6 h
            refine v_sub [(0, .ref x0)] [0] rfl ?_
            exact tb_X8_exp_92 (F := F) C hr h
          · replace h := g_ifF c6 h
            refine v_aload_n (pc := 83) C 44 0 rfl rfl rfl ?_
            refine v_getI (pc := 84) C 45 rfl lf_ScopeGraphModel_187.get (g_oB o1) rfl ?_
            refine v_bipush (pc := 87) C 46 16 rfl (by decide) ?_
            refine v_icmp_ne (pc := 89) C 47 97 rfl (by decide) (fun c7 => ?_) (fun c7 => ?_)
            · replace h := g_ifF c7 h
              refine v_aload_n (pc := 97) C 51 0 rfl rfl rfl ?_
              refine v_bipush (pc := 98) C 52 40 rfl (by decide) ?_
              obtain ⟨⟨r9, m8⟩, qm8, h⟩ := g_bd h
              replace h := g_nm (y := m8) (g_nm (y := r9) h rfl) rfl
              refine v_callV (pc := 100) C 53 rfl mf_X8_is clX8 rfl im_X8_is lm_ScopeGraphModel_249 (c_X8_is C.2.2.2.2.2.2.2.2.2.2.2 qm8) (by decide) rfl (g_oB o1) (Nat.le_of_ble_eq_true rfl) ⟨Nat.zero_le _, Nat.zero_le _⟩ rfl ?_
              change gV X w 0 0 (gR X w (some (.int rr)) rm) 1 103 [(0, .ref x0)] [.int r9] m8
              refine v_if_eq (pc := 103) C 54 130 rfl (by decide) (fun c11 => ?_) (fun c11 => ?_)
              · replace h := g_ifT c11 h
                refine v_aload_n (pc := 130) C 69 0 rfl rfl rfl ?_
                refine v_getI (pc := 131) C 70 rfl lf_ScopeGraphModel_261.get (g_oB o1) rfl ?_
                refine v_if_ne (pc := 134) C 71 142 rfl (by decide) (fun c12 => ?_) (fun c12 => ?_)
                · replace h := g_ifF c12 h
                  refine v_aload_n (pc := 142) C 75 0 rfl rfl rfl ?_
                  refine v_bipush (pc := 143) C 76 43 rfl (by decide) ?_
                  obtain ⟨⟨r14, m13⟩, qm13, h⟩ := g_bd h
                  replace h := g_nm (y := m13) (g_nm (y := r14) h rfl) rfl
                  refine v_callV (pc := 145) C 77 rfl mf_X8_is clX8 rfl im_X8_is lm_ScopeGraphModel_249 (c_X8_is C.2.2.2.2.2.2.2.2.2.2.2 qm13) (by decide) rfl (g_oB o1) (Nat.le_of_ble_eq_true rfl) ⟨Nat.zero_le _, Nat.zero_le _⟩ rfl ?_
                  change gV X w 0 0 (gR X w (some (.int rr)) rm) 1 148 [(0, .ref x0)] [.int r14] m13
                  refine v_if_eq (pc := 148) C 78 161 rfl (by decide) (fun c16 => ?_) (fun c16 => ?_)
                  · replace h := g_ifT c16 h
                    refine v_aload_n (pc := 161) C 85 0 rfl rfl rfl ?_
                    obtain ⟨⟨r18, m17⟩, qm17, h⟩ := g_bd h
                    replace h := g_nm (y := m17) (g_nm (y := r18) h rfl) rfl
                    refine v_callV (pc := 162) C 86 rfl mf_X8_ends clX8 rfl im_X8_ends lm_ScopeGraphModel_274 (c_X8_ends C.2.2.2.2.2.2.2.2.2.2.2 qm17) (by decide) rfl (g_oB o1) (Nat.le_of_ble_eq_true rfl) ⟨Nat.zero_le _, Nat.zero_le _⟩ rfl ?_
                    change gV X w 0 0 (gR X w (some (.int rr)) rm) 1 165 [(0, .ref x0)] [.int r18] m17
                    obtain ⟨o20, h⟩ := g_okk h
                    obtain ⟨rfl, rfl⟩ := g_so h
                    exact v_zret (pc := 165) C 87 rfl hr (g_zB o20)
                  · replace h := g_ifF c16 h
                    refine v_aload_n (pc := 151) C 79 0 rfl rfl rfl ?_
                    refine v_iconst (pc := 152) C 80 0 rfl (by decide) ?_
                    refine v_putI (pc := 153) C 81 rfl lf_ScopeGraphModel_261 (g_oB o1) rfl ?_
                    refine v_topM (fun m21 em21 => ?_)
                    replace h := g_nm h em21
                    refine v_aload_n (pc := 156) C 82 0 rfl rfl rfl ?_
                    obtain ⟨⟨r23, m22⟩, qm22, h⟩ := g_bd h
                    replace h := g_nm (y := m22) (g_nm (y := r23) h rfl) rfl
                    refine v_callV (pc := 157) C 83 rfl mf_X8_next clX8 rfl im_X8_next lm_ScopeGraphModel_229 (c_X8_next C.2.2.2.2.2.2.2.2.2.2.2 qm22) (by decide) rfl (g_oB o1) (Nat.le_of_ble_eq_true rfl) ⟨Nat.zero_le _, Nat.zero_le _⟩ rfl ?_
                    change gV X w 0 0 (gR X w (some (.int rr)) rm) 1 160 [(0, .ref x0)] [.int r23] m22
                    obtain ⟨o25, h⟩ := g_okk h
                    obtain ⟨rfl, rfl⟩ := g_so h
                    exact v_zret (pc := 160) C 84 rfl hr (g_zB o25)
                · replace h := g_ifT c12 h
                  refine v_aload_n (pc := 137) C 72 0 rfl rfl rfl ?_
                  obtain ⟨⟨r27, m26⟩, qm26, h⟩ := g_bd h
                  replace h := g_nm (y := m26) (g_nm (y := r27) h rfl) rfl
                  refine v_callV (pc := 138) C 73 rfl mf_X8_odd clX8 rfl im_X8_odd lm_ScopeGraphModel_239 (c_X8_odd C.2.2.2.2.2.2.2.2.2.2.2 qm26) (by decide) rfl (g_oB o1) (Nat.le_of_ble_eq_true rfl) ⟨Nat.zero_le _, Nat.zero_le _⟩ rfl ?_
                  change gV X w 0 0 (gR X w (some (.int rr)) rm) 1 141 [(0, .ref x0)] [.int r27] m26
                  obtain ⟨o29, h⟩ := g_okk h
                  obtain ⟨rfl, rfl⟩ := g_so h
                  exact v_zret (pc := 141) C 74 rfl hr (g_zB o29)
              · replace h := g_ifF c11 h
                refine v_aload_n (pc := 106) C 55 0 rfl rfl rfl ?_
                obtain ⟨⟨r31, m30⟩, qm30, h⟩ := g_bd h
                replace h := g_nm (y := m30) (g_nm (y := r31) h rfl) rfl
                refine v_callV (pc := 107) C 56 rfl mf_X8_bracket clX8 rfl im_X8_bracket lm_ScopeGraphModel_252 (c_X8_bracket C.2.2.2.2.2.2.2.2.2.2.2 qm30) (by decide) rfl (g_oB o1) (Nat.le_of_ble_eq_true rfl) ⟨Nat.zero_le _, Nat.zero_le _⟩ rfl ?_
                change gV X w 0 0 (gR X w (some (.int rr)) rm) 1 110 [(0, .ref x0)] [.int r31] m30
                refine v_if_ne (pc := 110) C 57 115 rfl (by decide) (fun c33 => ?_) (fun c33 => ?_)
                · replace h := g_ifF c33 h
                  refine v_aload_n (pc := 115) C 60 0 rfl rfl rfl ?_
                  refine v_iconst (pc := 116) C 61 2 rfl (by decide) ?_
                  obtain ⟨m34, qm34, h⟩ := g_bd h
                  refine v_callV (pc := 117) C 62 rfl mf_X8_open clX8 rfl im_X8_open lm_ScopeGraphModel_255 (c_X8_open C.2.2.2.2.2.2.2.2.2.2.2 qm34) (by decide) rfl (g_oB o1) (Nat.le_of_ble_eq_true rfl) ⟨Nat.zero_le _, Nat.zero_le _⟩ rfl ?_
                  change gV X w 0 0 (gR X w (some (.int rr)) rm) 1 120 [(0, .ref x0)] [] m34
                  refine v_aload_n (pc := 120) C 63 0 rfl rfl rfl ?_
                  refine v_iconst (pc := 121) C 64 0 rfl (by decide) ?_
                  refine v_putI (pc := 122) C 65 rfl lf_ScopeGraphModel_261 (g_oB o1) rfl ?_
                  refine v_topM (fun m36 em36 => ?_)
                  replace h := g_nm h em36
                  refine v_aload_n (pc := 125) C 66 0 rfl rfl rfl ?_
                  obtain ⟨⟨r38, m37⟩, qm37, h⟩ := g_bd h
                  replace h := g_nm (y := m37) (g_nm (y := r38) h rfl) rfl
                  refine v_callV (pc := 126) C 67 rfl mf_X8_next clX8 rfl im_X8_next lm_ScopeGraphModel_229 (c_X8_next C.2.2.2.2.2.2.2.2.2.2.2 qm37) (by decide) rfl (g_oB o1) (Nat.le_of_ble_eq_true rfl) ⟨Nat.zero_le _, Nat.zero_le _⟩ rfl ?_
                  change gV X w 0 0 (gR X w (some (.int rr)) rm) 1 129 [(0, .ref x0)] [.int r38] m37
                  obtain ⟨o40, h⟩ := g_okk h
                  obtain ⟨rfl, rfl⟩ := g_so h
                  exact v_zret (pc := 129) C 68 rfl hr (g_zB o40)
                · replace h := g_ifT c33 h
                  refine v_iconst (pc := 113) C 58 0 rfl (by decide) ?_
                  obtain ⟨rfl, rfl⟩ := g_so h
                  exact v_zret (pc := 114) C 59 rfl hr (by decide)
            · replace h := g_ifT c7 h
              refine v_sub [(0, .ref x0)] [0] rfl ?_
              exact tb_X8_exp_92 (F := F) C hr h
      · replace h := g_ifT c4 h
        refine v_aload_n (pc := 60) C 33 0 rfl rfl rfl ?_
        obtain ⟨⟨r42, m41⟩, qm41, h⟩ := g_bd h
        replace h := g_nm (y := m41) (g_nm (y := r42) h rfl) rfl
        refine v_callV (pc := 61) C 34 rfl mf_X8_fun clX8 rfl im_X8_fun lm_ScopeGraphModel_268 (c_X8_fun C.2.2.2.2.2.2.2.2.2.2.2 qm41) (by decide) rfl (g_oB o1) (Nat.le_of_ble_eq_true rfl) ⟨Nat.zero_le _, Nat.zero_le _⟩ rfl ?_
        change gV X w 0 0 (gR X w (some (.int rr)) rm) 1 64 [(0, .ref x0)] [.int r42] m41
        obtain ⟨o44, h⟩ := g_okk h
        obtain ⟨rfl, rfl⟩ := g_so h
        exact v_zret (pc := 64) C 35 rfl hr (g_zB o44)
    · replace h := g_ifT c3 h
      refine v_aload_n (pc := 31) C 17 0 rfl rfl rfl ?_
      refine v_dup (pc := 32) C 18 rfl rfl ?_
      refine v_getI (pc := 33) C 19 rfl lf_ScopeGraphModel_261.get (g_oB o1) rfl ?_
      refine v_iconst (pc := 36) C 20 1 rfl (by decide) ?_
      refine v_iadd (pc := 37) C 21 rfl ?_
      refine v_putI (pc := 38) C 22 rfl lf_ScopeGraphModel_261 (g_oB o1) rfl ?_
      refine v_topM (fun m45 em45 => ?_)
      replace h := g_nm h em45
      refine v_aload_n (pc := 41) C 23 0 rfl rfl rfl ?_
      refine v_iconst (pc := 42) C 24 0 rfl (by decide) ?_
      refine v_putZ (pc := 43) C 25 rfl lf_ScopeGraphModel_264 (g_oB o1) rfl (by decide) ?_
      refine v_topM (fun m46 em46 => ?_)
      replace h := g_nm h em46
      refine v_aload_n (pc := 46) C 26 0 rfl rfl rfl ?_
      obtain ⟨⟨r48, m47⟩, qm47, h⟩ := g_bd h
      replace h := g_nm (y := m47) (g_nm (y := r48) h rfl) rfl
      refine v_callV (pc := 47) C 27 rfl mf_X8_readLong clX8 rfl im_X8_readLong lm_ScopeGraphModel_258 (c_X8_readLong C.2.2.2.2.2.2.2.2.2.2.2 qm47) (by decide) rfl (g_oB o1) (Nat.le_of_ble_eq_true rfl) ⟨Nat.zero_le _, Nat.zero_le _⟩ rfl ?_
      change gV X w 0 0 (gR X w (some (.int rr)) rm) 1 50 [(0, .ref x0)] [.int r48] m47
      obtain ⟨o50, h⟩ := g_okk h
      obtain ⟨rfl, rfl⟩ := g_so h
      exact v_zret (pc := 50) C 28 rfl hr (g_zB o50)
  · replace h := g_ifT c2 h
    refine v_aload_n (pc := 8) C 4 0 rfl rfl rfl ?_
    refine v_dup (pc := 9) C 5 rfl rfl ?_
    refine v_getI (pc := 10) C 6 rfl lf_ScopeGraphModel_261.get (g_oB o1) rfl ?_
    refine v_iconst (pc := 13) C 7 1 rfl (by decide) ?_
    refine v_iadd (pc := 14) C 8 rfl ?_
    refine v_putI (pc := 15) C 9 rfl lf_ScopeGraphModel_261 (g_oB o1) rfl ?_
    refine v_topM (fun m51 em51 => ?_)
    replace h := g_nm h em51
    refine v_aload_n (pc := 18) C 10 0 rfl rfl rfl ?_
    obtain ⟨⟨r53, m52⟩, qm52, h⟩ := g_bd h
    replace h := g_nm (y := m52) (g_nm (y := r53) h rfl) rfl
    refine v_callV (pc := 19) C 11 rfl mf_X8_next clX8 rfl im_X8_next lm_ScopeGraphModel_229 (c_X8_next C.2.2.2.2.2.2.2.2.2.2.2 qm52) (by decide) rfl (g_oB o1) (Nat.le_of_ble_eq_true rfl) ⟨Nat.zero_le _, Nat.zero_le _⟩ rfl ?_
    change gV X w 0 0 (gR X w (some (.int rr)) rm) 1 22 [(0, .ref x0)] [.int r53] m52
    obtain ⟨o55, h⟩ := g_okk h
    obtain ⟨rfl, rfl⟩ := g_so h
    exact v_zret (pc := 22) C 12 rfl hr (g_zB o55)
theorem c_X8_exp {l : Launch} {w : gW} {rr : Int32} {rm : gM} (hJ : gJok w) {F : Nat} {x0 : Nat} {m : gM} (h : f_X8_exp w.2.2.2.2.1 F x0 m = some (rr, rm)) : gMet l 4 yX8_exp cX8_exp 1 (some .boolean) w [.ref x0] m (some (.int rr)) rm :=
  gMet.of hJ mf_X8_exp dk_X8_exp (Nat.le_of_ble_eq_true rfl) (fun X _ C hr => tf_X8_exp (F := F) C hr h)
def b_X8_readAll_114 (sh : List gS) (F : Nat) (k64 : Nat → Int32 → gM → Option (Int32 × gM)) (x0 : Nat) (y0 : Int32) (m : gM) : Option (Int32 × gM) :=
  k64 x0 y0 m
set_option maxRecDepth 100000 in
set_option maxHeartbeats 4000000 in
theorem tb_X8_readAll_114 {X : gX} {w : gW} {rr : Int32} {rm : gM} (C : gC X w K_X8_readAll 2 RX8 5) (hr : X.2.2.2.2.2.2.2.2.1.sig.returnType = (some .boolean)) {F : Nat} {k64 : Nat → Int32 → gM → Option (Int32 × gM)} (hk64 : ∀ (z0 : Nat) (z1 : Int32) (m : gM), k64 z0 z1 m = some (rr, rm) → gV X w 0 0 (gR X w (some (.int rr)) rm) 2 64 [(0, .ref z0), (1, .int z1)] [] m) {x0 : Nat} {y0 : Int32} {m : gM} (h : b_X8_readAll_114 w.2.2.2.2.1 F k64 x0 y0 m = some (rr, rm)) : gV X w 0 0 (gR X w (some (.int rr)) rm) 2 114 [(0, .ref x0)] [.int y0] m := by
  unfold b_X8_readAll_114 at h
  refine v_istore_n (pc := 114) (lv' := [(1, .int y0), (0, .ref x0)]) C 64 rfl rfl (by decide) rfl ?_
  refine v_goto (pc := 115) C 65 64 rfl (by decide) ?_
  refine v_sub [(0, .ref x0), (1, .int y0)] [1, 0] rfl ?_
  exact hk64 _ _ _ h
def b_X8_readAll_103 (sh : List gS) (F : Nat) (k64 : Nat → Int32 → gM → Option (Int32 × gM)) (x0 : Nat) (m : gM) : Option (Int32 × gM) :=
  g_if (oB sh x0 8) ((f_X8_dec sh F x0 m).bind (fun q4 => nm q4.1 (fun r3 => nm q4.2 (fun m2 => b_X8_readAll_114 sh F k64 x0 r3 m2))))
set_option maxRecDepth 100000 in
set_option maxHeartbeats 4000000 in
theorem tb_X8_readAll_103 {X : gX} {w : gW} {rr : Int32} {rm : gM} (C : gC X w K_X8_readAll 2 RX8 5) (hr : X.2.2.2.2.2.2.2.2.1.sig.returnType = (some .boolean)) {F : Nat} {k64 : Nat → Int32 → gM → Option (Int32 × gM)} (hk64 : ∀ (z0 : Nat) (z1 : Int32) (m : gM), k64 z0 z1 m = some (rr, rm) → gV X w 0 0 (gR X w (some (.int rr)) rm) 2 64 [(0, .ref z0), (1, .int z1)] [] m) {x0 : Nat} {m : gM} (h : b_X8_readAll_103 w.2.2.2.2.1 F k64 x0 m = some (rr, rm)) : gV X w 0 0 (gR X w (some (.int rr)) rm) 2 103 [(0, .ref x0)] [] m := by
  unfold b_X8_readAll_103 at h
  refine v_aload_n (pc := 103) C 59 0 rfl rfl rfl ?_
  obtain ⟨o1, h⟩ := g_okk h
  obtain ⟨⟨r3, m2⟩, qm2, h⟩ := g_bd h
  replace h := g_nm (y := m2) (g_nm (y := r3) h rfl) rfl
  refine v_callV (pc := 104) C 60 rfl mf_X8_dec clX8 rfl im_X8_dec lm_ScopeGraphModel_233 (c_X8_dec C.2.2.2.2.2.2.2.2.2.2.2 qm2) (by decide) rfl (g_oB o1) (Nat.le_of_ble_eq_true rfl) ⟨Nat.zero_le _, Nat.zero_le _⟩ rfl ?_
  change gV X w 0 0 (gR X w (some (.int rr)) rm) 2 107 [(0, .ref x0)] [.int r3] m2
  refine v_goto (pc := 107) C 61 114 rfl (by decide) ?_
  refine v_sub [(0, .ref x0)] [0] rfl ?_
  exact tb_X8_readAll_114 (F := F) C hr hk64 h
def b_X8_readAll_82 (sh : List gS) (F : Nat) (k64 : Nat → Int32 → gM → Option (Int32 × gM)) (x0 : Nat) (m : gM) : Option (Int32 × gM) :=
  g_if (oB sh x0 8) (if (m.1 x0 47) = 0 then (b_X8_readAll_103 sh F k64 x0 m) else ((m.2.2 x0 43).bind (fun t3 => g_if (aB sh t3 .int ((m.1 x0 47) - (1 : Int32))) (if (m.1 t3 ((m.1 x0 47) - (1 : Int32)).toNatClampNeg) = 0 then (b_X8_readAll_103 sh F k64 x0 m) else ((f_X8_exp sh F x0 m).bind (fun q8 => nm q8.1 (fun r7 => nm q8.2 (fun m6 => b_X8_readAll_114 sh F k64 x0 r7 m6))))))))
set_option maxRecDepth 100000 in
set_option maxHeartbeats 4000000 in
theorem tb_X8_readAll_82 {X : gX} {w : gW} {rr : Int32} {rm : gM} (C : gC X w K_X8_readAll 2 RX8 5) (hr : X.2.2.2.2.2.2.2.2.1.sig.returnType = (some .boolean)) {F : Nat} {k64 : Nat → Int32 → gM → Option (Int32 × gM)} (hk64 : ∀ (z0 : Nat) (z1 : Int32) (m : gM), k64 z0 z1 m = some (rr, rm) → gV X w 0 0 (gR X w (some (.int rr)) rm) 2 64 [(0, .ref z0), (1, .int z1)] [] m) {x0 : Nat} {m : gM} (h : b_X8_readAll_82 w.2.2.2.2.1 F k64 x0 m = some (rr, rm)) : gV X w 0 0 (gR X w (some (.int rr)) rm) 2 82 [(0, .ref x0)] [] m := by
  unfold b_X8_readAll_82 at h
  refine v_aload_n (pc := 82) C 48 0 rfl rfl rfl ?_
  obtain ⟨o1, h⟩ := g_okk h
  refine v_getI (pc := 83) C 49 rfl lf_ScopeGraphModel_217.get (g_oB o1) rfl ?_
  refine v_if_eq (pc := 86) C 50 103 rfl (by decide) (fun c2 => ?_) (fun c2 => ?_)
  · replace h := g_ifT c2 h
    refine v_sub [(0, .ref x0)] [0] rfl ?_
    exact tb_X8_readAll_103 (F := F) C hr hk64 h
  · replace h := g_ifF c2 h
    refine v_aload_n (pc := 89) C 51 0 rfl rfl rfl ?_
    obtain ⟨t3, qt3, h⟩ := g_bd h
    refine v_getR (pc := 90) C 52 rfl lf_ScopeGraphModel_89 (g_oB o1) rfl qt3 ?_
    refine v_aload_n (pc := 93) C 53 0 rfl rfl rfl ?_
    refine v_getI (pc := 94) C 54 rfl lf_ScopeGraphModel_217.get (g_oB o1) rfl ?_
    refine v_iconst (pc := 97) C 55 1 rfl (by decide) ?_
    refine v_isub (pc := 98) C 56 rfl ?_
    obtain ⟨b4, h⟩ := g_okk h
    refine v_iald' (pc := 99) C 57 rfl b4 ?_
    refine v_if_ne (pc := 100) C 58 110 rfl (by decide) (fun c5 => ?_) (fun c5 => ?_)
    · replace h := g_ifF c5 h
      refine v_aload_n (pc := 110) C 62 0 rfl rfl rfl ?_
      obtain ⟨⟨r7, m6⟩, qm6, h⟩ := g_bd h
      replace h := g_nm (y := m6) (g_nm (y := r7) h rfl) rfl
      refine v_callV (pc := 111) C 63 rfl mf_X8_exp clX8 rfl im_X8_exp lm_ScopeGraphModel_236 (c_X8_exp C.2.2.2.2.2.2.2.2.2.2.2 qm6) (by decide) rfl (g_oB o1) (Nat.le_of_ble_eq_true rfl) ⟨Nat.zero_le _, Nat.zero_le _⟩ rfl ?_
      change gV X w 0 0 (gR X w (some (.int rr)) rm) 2 114 [(0, .ref x0)] [.int r7] m6
      refine v_sub [(0, .ref x0)] [0] rfl ?_
      exact tb_X8_readAll_114 (F := F) C hr hk64 h
    · replace h := g_ifT c5 h
      refine v_sub [(0, .ref x0)] [0] rfl ?_
      exact tb_X8_readAll_103 (F := F) C hr hk64 h
def b_X8_readAll_64 (sh : List gS) (F : Nat) (k64 : Nat → Int32 → gM → Option (Int32 × gM)) (x0 : Nat) (x1 : Int32) (m : gM) : Option (Int32 × gM) :=
  if x1 = 0 then (g_if (zB x1) (some (x1, m))) else (g_if (oB sh x0 8) (if (m.1 x0 38) = 0 then (if (m.1 x0 47) ≤ 0 then (g_if (zB x1) (some (x1, m))) else (b_X8_readAll_82 sh F k64 x0 m)) else (b_X8_readAll_82 sh F k64 x0 m)))
set_option maxRecDepth 100000 in
set_option maxHeartbeats 4000000 in
theorem tb_X8_readAll_64 {X : gX} {w : gW} {rr : Int32} {rm : gM} (C : gC X w K_X8_readAll 2 RX8 5) (hr : X.2.2.2.2.2.2.2.2.1.sig.returnType = (some .boolean)) {F : Nat} {k64 : Nat → Int32 → gM → Option (Int32 × gM)} (hk64 : ∀ (z0 : Nat) (z1 : Int32) (m : gM), k64 z0 z1 m = some (rr, rm) → gV X w 0 0 (gR X w (some (.int rr)) rm) 2 64 [(0, .ref z0), (1, .int z1)] [] m) {x0 : Nat} {x1 : Int32} {m : gM} (h : b_X8_readAll_64 w.2.2.2.2.1 F k64 x0 x1 m = some (rr, rm)) : gV X w 0 0 (gR X w (some (.int rr)) rm) 2 64 [(0, .ref x0), (1, .int x1)] [] m := by
  unfold b_X8_readAll_64 at h
  refine v_iload_n (pc := 64) C 40 1 rfl rfl rfl ?_
  refine v_if_eq (pc := 65) C 41 118 rfl (by decide) (fun c1 => ?_) (fun c1 => ?_)
  · replace h := g_ifT c1 h
    refine v_iload_n (pc := 118) C 66 1 rfl rfl rfl ?_
    obtain ⟨o2, h⟩ := g_okk h
    obtain ⟨rfl, rfl⟩ := g_so h
    exact v_zret (pc := 119) C 67 rfl hr (g_zB o2)
  · replace h := g_ifF c1 h
    refine v_aload_n (pc := 68) C 42 0 rfl rfl rfl ?_
    obtain ⟨o3, h⟩ := g_okk h
    refine v_getI (pc := 69) C 43 rfl lf_ScopeGraphModel_187.get (g_oB o3) rfl ?_
    refine v_if_ne (pc := 72) C 44 82 rfl (by decide) (fun c4 => ?_) (fun c4 => ?_)
    · replace h := g_ifF c4 h
      refine v_sub [(0, .ref x0)] [0] rfl ?_
      exact tb_X8_readAll_82 (F := F) C hr hk64 h
    · replace h := g_ifT c4 h
      refine v_aload_n (pc := 75) C 45 0 rfl rfl rfl ?_
      refine v_getI (pc := 76) C 46 rfl lf_ScopeGraphModel_217.get (g_oB o3) rfl ?_
      refine v_if_le (pc := 79) C 47 118 rfl (by decide) (fun c5 => ?_) (fun c5 => ?_)
      · replace h := g_ifT c5 h
        refine v_iload_n (pc := 118) C 66 1 rfl rfl rfl ?_
        obtain ⟨o6, h⟩ := g_okk h
        obtain ⟨rfl, rfl⟩ := g_so h
        exact v_zret (pc := 119) C 67 rfl hr (g_zB o6)
      · replace h := g_ifF c5 h
        refine v_sub [(0, .ref x0)] [0] rfl ?_
        exact tb_X8_readAll_82 (F := F) C hr hk64 h
def l_X8_readAll_64 (sh : List gS) (F : Nat) : Nat → Nat → Int32 → gM → Option (Int32 × gM)
  | 0 => fun _ _ _ => none
  | n + 1 => fun x0 x1 m => b_X8_readAll_64 sh F (l_X8_readAll_64 sh F n) x0 x1 m
theorem tl_X8_readAll_64 {X : gX} {w : gW} {rr : Int32} {rm : gM} (C : gC X w K_X8_readAll 2 RX8 5) (hr : X.2.2.2.2.2.2.2.2.1.sig.returnType = (some .boolean)) {F : Nat} : ∀ (n : Nat) (x0 : Nat) (x1 : Int32) (m : gM), l_X8_readAll_64 w.2.2.2.2.1 F n x0 x1 m = some (rr, rm) → gV X w 0 0 (gR X w (some (.int rr)) rm) 2 64 [(0, .ref x0), (1, .int x1)] [] m := by
  intro n
  induction n with
  | zero => intro x0 x1 m h; cases h
  | succ n ih => intro x0 x1 m h; exact tb_X8_readAll_64 (F := F) C hr ih h
def f_X8_readAll (sh : List gS) (F : Nat) (x0 : Nat) (m : gM) : Option (Int32 × gM) :=
  g_if (oB sh x0 8) (nm (gsI m x0 7 0) (fun m2 => nm (gsI m2 x0 10 1) (fun m3 => (m3.2.2 x0 8).bind (fun t4 => g_if (aB sh t4 .int 0) (nm (gsI m3 t4 (0 : Int32).toNatClampNeg (-1)) (fun m6 => (m6.2.2 x0 9).bind (fun t7 => g_if (aB sh t7 .int 0) (nm (gsI m6 t7 (0 : Int32).toNatClampNeg 0) (fun m9 => nm (gsI m9 x0 15 0) (fun m10 => nm (gsI m10 x0 20 0) (fun m11 => nm (gsI m11 x0 21 0) (fun m12 => nm (gsI m12 x0 47 0) (fun m13 => nm (gsI m13 x0 48 0) (fun m14 => nm (gsI m14 x0 49 0) (fun m15 => nm (gsI m15 x0 37 0) (fun m16 => (f_X8_next sh F x0 m16).bind (fun q19 => nm q19.1 (fun r18 => nm q19.2 (fun m17 => l_X8_readAll_64 sh F F x0 r18 m17)))))))))))))))))))
set_option maxRecDepth 100000 in
set_option maxHeartbeats 4000000 in
theorem tf_X8_readAll {X : gX} {w : gW} {rr : Int32} {rm : gM} (C : gC X w K_X8_readAll 2 RX8 5) (hr : X.2.2.2.2.2.2.2.2.1.sig.returnType = (some .boolean)) {F : Nat} {x0 : Nat} {m : gM} (h : f_X8_readAll w.2.2.2.2.1 F x0 m = some (rr, rm)) : gV X w 0 0 (gR X w (some (.int rr)) rm) 2 0 [(0, .ref x0)] [] m := by
  unfold f_X8_readAll at h
  refine v_aload_n (pc := 0) C 0 0 rfl rfl rfl ?_
  refine v_iconst (pc := 1) C 1 0 rfl (by decide) ?_
  obtain ⟨o1, h⟩ := g_okk h
  refine v_putI (pc := 2) C 2 rfl lf_ScopeGraphModel_168 (g_oB o1) rfl ?_
  refine v_topM (fun m2 em2 => ?_)
  replace h := g_nm h em2
  refine v_aload_n (pc := 5) C 3 0 rfl rfl rfl ?_
  refine v_iconst (pc := 6) C 4 1 rfl (by decide) ?_
  refine v_putI (pc := 7) C 5 rfl lf_ScopeGraphModel_25 (g_oB o1) rfl ?_
  refine v_topM (fun m3 em3 => ?_)
  replace h := g_nm h em3
  refine v_aload_n (pc := 10) C 6 0 rfl rfl rfl ?_
  obtain ⟨t4, qt4, h⟩ := g_bd h
  refine v_getR (pc := 11) C 7 rfl lf_ScopeGraphModel_19 (g_oB o1) rfl qt4 ?_
  refine v_iconst (pc := 14) C 8 0 rfl (by decide) ?_
  refine v_iconst (pc := 15) C 9 (-1) rfl (by decide) ?_
  obtain ⟨b5, h⟩ := g_okk h
  refine v_iast' (pc := 16) C 10 rfl b5 ?_
  refine v_topM (fun m6 em6 => ?_)
  replace h := g_nm h em6
  refine v_aload_n (pc := 17) C 11 0 rfl rfl rfl ?_
  obtain ⟨t7, qt7, h⟩ := g_bd h
  refine v_getR (pc := 18) C 12 rfl lf_ScopeGraphModel_22 (g_oB o1) rfl qt7 ?_
  refine v_iconst (pc := 21) C 13 0 rfl (by decide) ?_
  refine v_iconst (pc := 22) C 14 0 rfl (by decide) ?_
  obtain ⟨b8, h⟩ := g_okk h
  refine v_iast' (pc := 23) C 15 rfl b8 ?_
  refine v_topM (fun m9 em9 => ?_)
  replace h := g_nm h em9
  refine v_aload_n (pc := 24) C 16 0 rfl rfl rfl ?_
  refine v_iconst (pc := 25) C 17 0 rfl (by decide) ?_
  refine v_putI (pc := 26) C 18 rfl lf_ScopeGraphModel_211 (g_oB o1) rfl ?_
  refine v_topM (fun m10 em10 => ?_)
  replace h := g_nm h em10
  refine v_aload_n (pc := 29) C 19 0 rfl rfl rfl ?_
  refine v_iconst (pc := 30) C 20 0 rfl (by decide) ?_
  refine v_putI (pc := 31) C 21 rfl lf_ScopeGraphModel_223 (g_oB o1) rfl ?_
  refine v_topM (fun m11 em11 => ?_)
  replace h := g_nm h em11
  refine v_aload_n (pc := 34) C 22 0 rfl rfl rfl ?_
  refine v_iconst (pc := 35) C 23 0 rfl (by decide) ?_
  refine v_putI (pc := 36) C 24 rfl lf_ScopeGraphModel_226 (g_oB o1) rfl ?_
  refine v_topM (fun m12 em12 => ?_)
  replace h := g_nm h em12
  refine v_aload_n (pc := 39) C 25 0 rfl rfl rfl ?_
  refine v_iconst (pc := 40) C 26 0 rfl (by decide) ?_
  refine v_putI (pc := 41) C 27 rfl lf_ScopeGraphModel_217 (g_oB o1) rfl ?_
  refine v_topM (fun m13 em13 => ?_)
  replace h := g_nm h em13
  refine v_aload_n (pc := 44) C 28 0 rfl rfl rfl ?_
  refine v_iconst (pc := 45) C 29 0 rfl (by decide) ?_
  refine v_putI (pc := 46) C 30 rfl lf_ScopeGraphModel_214 (g_oB o1) rfl ?_
  refine v_topM (fun m14 em14 => ?_)
  replace h := g_nm h em14
  refine v_aload_n (pc := 49) C 31 0 rfl rfl rfl ?_
  refine v_iconst (pc := 50) C 32 0 rfl (by decide) ?_
  refine v_putI (pc := 51) C 33 rfl lf_ScopeGraphModel_220 (g_oB o1) rfl ?_
  refine v_topM (fun m15 em15 => ?_)
  replace h := g_nm h em15
  refine v_aload_n (pc := 54) C 34 0 rfl rfl rfl ?_
  refine v_iconst (pc := 55) C 35 0 rfl (by decide) ?_
  refine v_putI (pc := 56) C 36 rfl lf_ScopeGraphModel_177 (g_oB o1) rfl ?_
  refine v_topM (fun m16 em16 => ?_)
  replace h := g_nm h em16
  refine v_aload_n (pc := 59) C 37 0 rfl rfl rfl ?_
  obtain ⟨⟨r18, m17⟩, qm17, h⟩ := g_bd h
  replace h := g_nm (y := m17) (g_nm (y := r18) h rfl) rfl
  refine v_callV (pc := 60) C 38 rfl mf_X8_next clX8 rfl im_X8_next lm_ScopeGraphModel_229 (c_X8_next C.2.2.2.2.2.2.2.2.2.2.2 qm17) (by decide) rfl (g_oB o1) (Nat.le_of_ble_eq_true rfl) ⟨Nat.zero_le _, Nat.zero_le _⟩ rfl ?_
  change gV X w 0 0 (gR X w (some (.int rr)) rm) 2 63 [(0, .ref x0)] [.int r18] m17
  refine v_istore_n (pc := 63) (lv' := [(1, .int r18), (0, .ref x0)]) C 39 rfl rfl (by decide) rfl ?_
  refine v_sub [(0, .ref x0), (1, .int r18)] [1, 0] rfl ?_
  exact tl_X8_readAll_64 (F := F) C hr _ _ _ _ h
theorem c_X8_readAll {l : Launch} {w : gW} {rr : Int32} {rm : gM} (hJ : gJok w) {F : Nat} {x0 : Nat} {m : gM} (h : f_X8_readAll w.2.2.2.2.1 F x0 m = some (rr, rm)) : gMet l 5 yX8_readAll cX8_readAll 2 (some .boolean) w [.ref x0] m (some (.int rr)) rm :=
  gMet.of hJ mf_X8_readAll dk_X8_readAll (Nat.le_of_ble_eq_true rfl) (fun X _ C hr => tf_X8_readAll (F := F) C hr h)
def b_X8_keep_122 (sh : List gS) (F : Nat) (k122 : Nat → Int32 → gM → Option (gM)) (x0 : Nat) (x1 : Int32) (m : gM) : Option (gM) :=
  g_if (oB sh x0 8) (if (m.1 x0 20) ≤ x1 then (nm (gsI m x0 34 (m.1 x0 20)) (fun m3 => some m3)) else ((m.2.2 x0 30).bind (fun t4 => (m.2.2 x0 16).bind (fun t5 => g_if (aB sh t5 .int x1) (g_if (aB sh t4 .int x1) (nm (gsI m t4 (x1).toNatClampNeg (m.1 t5 (x1).toNatClampNeg)) (fun m8 => (m8.2.2 x0 31).bind (fun t9 => (m8.2.2 x0 17).bind (fun t10 => g_if (aB sh t10 .int x1) (g_if (aB sh t9 .int x1) (nm (gsI m8 t9 (x1).toNatClampNeg (m8.1 t10 (x1).toNatClampNeg)) (fun m13 => (m13.2.2 x0 32).bind (fun t14 => (m13.2.2 x0 18).bind (fun t15 => g_if (aB sh t15 .int x1) (g_if (aB sh t14 .int x1) (nm (gsI m13 t14 (x1).toNatClampNeg (m13.1 t15 (x1).toNatClampNeg)) (fun m18 => (m18.2.2 x0 33).bind (fun t19 => (m18.2.2 x0 19).bind (fun t20 => g_if (aB sh t20 .int x1) (g_if (aB sh t19 .int x1) (nm (gsI m18 t19 (x1).toNatClampNeg (m18.1 t20 (x1).toNatClampNeg)) (fun m23 => nm (x1 + Int32.ofInt 1) (fun v24 => k122 x0 v24 m23)))))))))))))))))))))))
set_option maxRecDepth 100000 in
set_option maxHeartbeats 4000000 in
theorem tb_X8_keep_122 {X : gX} {w : gW} {rm : gM} (C : gC X w K_X8_keep 2 RX8 0) (hr : X.2.2.2.2.2.2.2.2.1.sig.returnType = none) {F : Nat} {k122 : Nat → Int32 → gM → Option (gM)} (hk122 : ∀ (z0 : Nat) (z1 : Int32) (m : gM), k122 z0 z1 m = some rm → gV X w 0 0 (gR X w none rm) 2 122 [(0, .ref z0), (1, .int z1)] [] m) {x0 : Nat} {x1 : Int32} {m : gM} (h : b_X8_keep_122 w.2.2.2.2.1 F k122 x0 x1 m = some rm) : gV X w 0 0 (gR X w none rm) 2 122 [(0, .ref x0), (1, .int x1)] [] m := by
  unfold b_X8_keep_122 at h
  refine v_iload_n (pc := 122) C 74 1 rfl rfl rfl ?_
  refine v_aload_n (pc := 123) C 75 0 rfl rfl rfl ?_
  obtain ⟨o1, h⟩ := g_okk h
  refine v_getI (pc := 124) C 76 rfl lf_ScopeGraphModel_223.get (g_oB o1) rfl ?_
  refine v_icmp_ge (pc := 127) C 77 184 rfl (by decide) (fun c2 => ?_) (fun c2 => ?_)
  · replace h := g_ifT c2 h
    refine v_aload_n (pc := 184) C 112 0 rfl rfl rfl ?_
    refine v_aload_n (pc := 185) C 113 0 rfl rfl rfl ?_
    refine v_getI (pc := 186) C 114 rfl lf_ScopeGraphModel_223.get (g_oB o1) rfl ?_
    refine v_putI (pc := 189) C 115 rfl lf_ScopeGraphModel_289 (g_oB o1) rfl ?_
    refine v_topM (fun m3 em3 => ?_)
    replace h := g_nm h em3
    cases g_s1' h
    exact v_vret (pc := 192) C 116 rfl hr
  · replace h := g_ifF c2 h
    refine v_aload_n (pc := 130) C 78 0 rfl rfl rfl ?_
    obtain ⟨t4, qt4, h⟩ := g_bd h
    refine v_getR (pc := 131) C 79 rfl lf_ScopeGraphModel_71 (g_oB o1) rfl qt4 ?_
    refine v_iload_n (pc := 134) C 80 1 rfl rfl rfl ?_
    refine v_aload_n (pc := 135) C 81 0 rfl rfl rfl ?_
    obtain ⟨t5, qt5, h⟩ := g_bd h
    refine v_getR (pc := 136) C 82 rfl lf_ScopeGraphModel_41 (g_oB o1) rfl qt5 ?_
    refine v_iload_n (pc := 139) C 83 1 rfl rfl rfl ?_
    obtain ⟨b6, h⟩ := g_okk h
    refine v_iald' (pc := 140) C 84 rfl b6 ?_
    obtain ⟨b7, h⟩ := g_okk h
    refine v_iast' (pc := 141) C 85 rfl b7 ?_
    refine v_topM (fun m8 em8 => ?_)
    replace h := g_nm h em8
    refine v_aload_n (pc := 142) C 86 0 rfl rfl rfl ?_
    obtain ⟨t9, qt9, h⟩ := g_bd h
    refine v_getR (pc := 143) C 87 rfl lf_ScopeGraphModel_74 (g_oB o1) rfl qt9 ?_
    refine v_iload_n (pc := 146) C 88 1 rfl rfl rfl ?_
    refine v_aload_n (pc := 147) C 89 0 rfl rfl rfl ?_
    obtain ⟨t10, qt10, h⟩ := g_bd h
    refine v_getR (pc := 148) C 90 rfl lf_ScopeGraphModel_44 (g_oB o1) rfl qt10 ?_
    refine v_iload_n (pc := 151) C 91 1 rfl rfl rfl ?_
    obtain ⟨b11, h⟩ := g_okk h
    refine v_iald' (pc := 152) C 92 rfl b11 ?_
    obtain ⟨b12, h⟩ := g_okk h
    refine v_iast' (pc := 153) C 93 rfl b12 ?_
    refine v_topM (fun m13 em13 => ?_)
    replace h := g_nm h em13
    refine v_aload_n (pc := 154) C 94 0 rfl rfl rfl ?_
    obtain ⟨t14, qt14, h⟩ := g_bd h
    refine v_getR (pc := 155) C 95 rfl lf_ScopeGraphModel_77 (g_oB o1) rfl qt14 ?_
    refine v_iload_n (pc := 158) C 96 1 rfl rfl rfl ?_
    refine v_aload_n (pc := 159) C 97 0 rfl rfl rfl ?_
    obtain ⟨t15, qt15, h⟩ := g_bd h
    refine v_getR (pc := 160) C 98 rfl lf_ScopeGraphModel_47 (g_oB o1) rfl qt15 ?_
    refine v_iload_n (pc := 163) C 99 1 rfl rfl rfl ?_
    obtain ⟨b16, h⟩ := g_okk h
    refine v_iald' (pc := 164) C 100 rfl b16 ?_
    obtain ⟨b17, h⟩ := g_okk h
    refine v_iast' (pc := 165) C 101 rfl b17 ?_
    refine v_topM (fun m18 em18 => ?_)
    replace h := g_nm h em18
    refine v_aload_n (pc := 166) C 102 0 rfl rfl rfl ?_
    obtain ⟨t19, qt19, h⟩ := g_bd h
    refine v_getR (pc := 167) C 103 rfl lf_ScopeGraphModel_80 (g_oB o1) rfl qt19 ?_
    refine v_iload_n (pc := 170) C 104 1 rfl rfl rfl ?_
    refine v_aload_n (pc := 171) C 105 0 rfl rfl rfl ?_
    obtain ⟨t20, qt20, h⟩ := g_bd h
    refine v_getR (pc := 172) C 106 rfl lf_ScopeGraphModel_50 (g_oB o1) rfl qt20 ?_
    refine v_iload_n (pc := 175) C 107 1 rfl rfl rfl ?_
    obtain ⟨b21, h⟩ := g_okk h
    refine v_iald' (pc := 176) C 108 rfl b21 ?_
    obtain ⟨b22, h⟩ := g_okk h
    refine v_iast' (pc := 177) C 109 rfl b22 ?_
    refine v_topM (fun m23 em23 => ?_)
    replace h := g_nm h em23
    refine v_iincN (pc := 178) C 110 1 (fun v24 => [(1, .int v24), (0, .ref x0)]) rfl rfl (by decide) (fun _ => rfl) (fun v24 ev24 => ?_)
    replace h := g_nm h ev24
    refine v_goto (pc := 181) C 111 122 rfl (by decide) ?_
    refine v_sub [(0, .ref x0), (1, .int v24)] [1, 0] rfl ?_
    exact hk122 _ _ _ h
def l_X8_keep_122 (sh : List gS) (F : Nat) : Nat → Nat → Int32 → gM → Option (gM)
  | 0 => fun _ _ _ => none
  | n + 1 => fun x0 x1 m => b_X8_keep_122 sh F (l_X8_keep_122 sh F n) x0 x1 m
theorem tl_X8_keep_122 {X : gX} {w : gW} {rm : gM} (C : gC X w K_X8_keep 2 RX8 0) (hr : X.2.2.2.2.2.2.2.2.1.sig.returnType = none) {F : Nat} : ∀ (n : Nat) (x0 : Nat) (x1 : Int32) (m : gM), l_X8_keep_122 w.2.2.2.2.1 F n x0 x1 m = some rm → gV X w 0 0 (gR X w none rm) 2 122 [(0, .ref x0), (1, .int x1)] [] m := by
  intro n
  induction n with
  | zero => intro x0 x1 m h; cases h
  | succ n ih => intro x0 x1 m h; exact tb_X8_keep_122 (F := F) C hr ih h
def b_X8_keep_50 (sh : List gS) (F : Nat) (k50 : Nat → Int32 → gM → Option (gM)) (x0 : Nat) (x1 : Int32) (m : gM) : Option (gM) :=
  g_if (oB sh x0 8) (if (m.1 x0 15) ≤ x1 then (nm (gsI m x0 29 (m.1 x0 15)) (fun m3 => l_X8_keep_122 sh F F x0 0 m3)) else ((m.2.2 x0 25).bind (fun t4 => (m.2.2 x0 11).bind (fun t5 => g_if (aB sh t5 .int x1) (g_if (aB sh t4 .int x1) (nm (gsI m t4 (x1).toNatClampNeg (m.1 t5 (x1).toNatClampNeg)) (fun m8 => (m8.2.2 x0 26).bind (fun t9 => (m8.2.2 x0 12).bind (fun t10 => g_if (aB sh t10 .int x1) (g_if (aB sh t9 .int x1) (nm (gsI m8 t9 (x1).toNatClampNeg (m8.1 t10 (x1).toNatClampNeg)) (fun m13 => (m13.2.2 x0 27).bind (fun t14 => (m13.2.2 x0 13).bind (fun t15 => g_if (aB sh t15 .int x1) (g_if (aB sh t14 .int x1) (nm (gsI m13 t14 (x1).toNatClampNeg (m13.1 t15 (x1).toNatClampNeg)) (fun m18 => (m18.2.2 x0 28).bind (fun t19 => (m18.2.2 x0 14).bind (fun t20 => g_if (aB sh t20 .int x1) (g_if (aB sh t19 .int x1) (nm (gsI m18 t19 (x1).toNatClampNeg (m18.1 t20 (x1).toNatClampNeg)) (fun m23 => nm (x1 + Int32.ofInt 1) (fun v24 => k50 x0 v24 m23)))))))))))))))))))))))
set_option maxRecDepth 100000 in
set_option maxHeartbeats 4000000 in
theorem tb_X8_keep_50 {X : gX} {w : gW} {rm : gM} (C : gC X w K_X8_keep 2 RX8 0) (hr : X.2.2.2.2.2.2.2.2.1.sig.returnType = none) {F : Nat} {k50 : Nat → Int32 → gM → Option (gM)} (hk50 : ∀ (z0 : Nat) (z1 : Int32) (m : gM), k50 z0 z1 m = some rm → gV X w 0 0 (gR X w none rm) 2 50 [(0, .ref z0), (1, .int z1)] [] m) {x0 : Nat} {x1 : Int32} {m : gM} (h : b_X8_keep_50 w.2.2.2.2.1 F k50 x0 x1 m = some rm) : gV X w 0 0 (gR X w none rm) 2 50 [(0, .ref x0), (1, .int x1)] [] m := by
  unfold b_X8_keep_50 at h
  refine v_iload_n (pc := 50) C 30 1 rfl rfl rfl ?_
  refine v_aload_n (pc := 51) C 31 0 rfl rfl rfl ?_
  obtain ⟨o1, h⟩ := g_okk h
  refine v_getI (pc := 52) C 32 rfl lf_ScopeGraphModel_211.get (g_oB o1) rfl ?_
  refine v_icmp_ge (pc := 55) C 33 112 rfl (by decide) (fun c2 => ?_) (fun c2 => ?_)
  · replace h := g_ifT c2 h
    refine v_aload_n (pc := 112) C 68 0 rfl rfl rfl ?_
    refine v_aload_n (pc := 113) C 69 0 rfl rfl rfl ?_
    refine v_getI (pc := 114) C 70 rfl lf_ScopeGraphModel_211.get (g_oB o1) rfl ?_
    refine v_putI (pc := 117) C 71 rfl lf_ScopeGraphModel_286 (g_oB o1) rfl ?_
    refine v_topM (fun m3 em3 => ?_)
    replace h := g_nm h em3
    refine v_iconst (pc := 120) C 72 0 rfl (by decide) ?_
    refine v_istore_n (pc := 121) (lv' := [(1, .int 0), (0, .ref x0)]) C 73 rfl rfl (by decide) rfl ?_
    refine v_sub [(0, .ref x0), (1, .int 0)] [1, 0] rfl ?_
    exact tl_X8_keep_122 (F := F) C hr _ _ _ _ h
  · replace h := g_ifF c2 h
    refine v_aload_n (pc := 58) C 34 0 rfl rfl rfl ?_
    obtain ⟨t4, qt4, h⟩ := g_bd h
    refine v_getR (pc := 59) C 35 rfl lf_ScopeGraphModel_59 (g_oB o1) rfl qt4 ?_
    refine v_iload_n (pc := 62) C 36 1 rfl rfl rfl ?_
    refine v_aload_n (pc := 63) C 37 0 rfl rfl rfl ?_
    obtain ⟨t5, qt5, h⟩ := g_bd h
    refine v_getR (pc := 64) C 38 rfl lf_ScopeGraphModel_29 (g_oB o1) rfl qt5 ?_
    refine v_iload_n (pc := 67) C 39 1 rfl rfl rfl ?_
    obtain ⟨b6, h⟩ := g_okk h
    refine v_iald' (pc := 68) C 40 rfl b6 ?_
    obtain ⟨b7, h⟩ := g_okk h
    refine v_iast' (pc := 69) C 41 rfl b7 ?_
    refine v_topM (fun m8 em8 => ?_)
    replace h := g_nm h em8
    refine v_aload_n (pc := 70) C 42 0 rfl rfl rfl ?_
    obtain ⟨t9, qt9, h⟩ := g_bd h
    refine v_getR (pc := 71) C 43 rfl lf_ScopeGraphModel_62 (g_oB o1) rfl qt9 ?_
    refine v_iload_n (pc := 74) C 44 1 rfl rfl rfl ?_
    refine v_aload_n (pc := 75) C 45 0 rfl rfl rfl ?_
    obtain ⟨t10, qt10, h⟩ := g_bd h
    refine v_getR (pc := 76) C 46 rfl lf_ScopeGraphModel_32 (g_oB o1) rfl qt10 ?_
    refine v_iload_n (pc := 79) C 47 1 rfl rfl rfl ?_
    obtain ⟨b11, h⟩ := g_okk h
    refine v_iald' (pc := 80) C 48 rfl b11 ?_
    obtain ⟨b12, h⟩ := g_okk h
    refine v_iast' (pc := 81) C 49 rfl b12 ?_
    refine v_topM (fun m13 em13 => ?_)
    replace h := g_nm h em13
    refine v_aload_n (pc := 82) C 50 0 rfl rfl rfl ?_
    obtain ⟨t14, qt14, h⟩ := g_bd h
    refine v_getR (pc := 83) C 51 rfl lf_ScopeGraphModel_65 (g_oB o1) rfl qt14 ?_
    refine v_iload_n (pc := 86) C 52 1 rfl rfl rfl ?_
    refine v_aload_n (pc := 87) C 53 0 rfl rfl rfl ?_
    obtain ⟨t15, qt15, h⟩ := g_bd h
    refine v_getR (pc := 88) C 54 rfl lf_ScopeGraphModel_35 (g_oB o1) rfl qt15 ?_
    refine v_iload_n (pc := 91) C 55 1 rfl rfl rfl ?_
    obtain ⟨b16, h⟩ := g_okk h
    refine v_iald' (pc := 92) C 56 rfl b16 ?_
    obtain ⟨b17, h⟩ := g_okk h
    refine v_iast' (pc := 93) C 57 rfl b17 ?_
    refine v_topM (fun m18 em18 => ?_)
    replace h := g_nm h em18
    refine v_aload_n (pc := 94) C 58 0 rfl rfl rfl ?_
    obtain ⟨t19, qt19, h⟩ := g_bd h
    refine v_getR (pc := 95) C 59 rfl lf_ScopeGraphModel_68 (g_oB o1) rfl qt19 ?_
    refine v_iload_n (pc := 98) C 60 1 rfl rfl rfl ?_
    refine v_aload_n (pc := 99) C 61 0 rfl rfl rfl ?_
    obtain ⟨t20, qt20, h⟩ := g_bd h
    refine v_getR (pc := 100) C 62 rfl lf_ScopeGraphModel_38 (g_oB o1) rfl qt20 ?_
    refine v_iload_n (pc := 103) C 63 1 rfl rfl rfl ?_
    obtain ⟨b21, h⟩ := g_okk h
    refine v_iald' (pc := 104) C 64 rfl b21 ?_
    obtain ⟨b22, h⟩ := g_okk h
    refine v_iast' (pc := 105) C 65 rfl b22 ?_
    refine v_topM (fun m23 em23 => ?_)
    replace h := g_nm h em23
    refine v_iincN (pc := 106) C 66 1 (fun v24 => [(1, .int v24), (0, .ref x0)]) rfl rfl (by decide) (fun _ => rfl) (fun v24 ev24 => ?_)
    replace h := g_nm h ev24
    refine v_goto (pc := 109) C 67 50 rfl (by decide) ?_
    refine v_sub [(0, .ref x0), (1, .int v24)] [1, 0] rfl ?_
    exact hk50 _ _ _ h
def l_X8_keep_50 (sh : List gS) (F : Nat) : Nat → Nat → Int32 → gM → Option (gM)
  | 0 => fun _ _ _ => none
  | n + 1 => fun x0 x1 m => b_X8_keep_50 sh F (l_X8_keep_50 sh F n) x0 x1 m
theorem tl_X8_keep_50 {X : gX} {w : gW} {rm : gM} (C : gC X w K_X8_keep 2 RX8 0) (hr : X.2.2.2.2.2.2.2.2.1.sig.returnType = none) {F : Nat} : ∀ (n : Nat) (x0 : Nat) (x1 : Int32) (m : gM), l_X8_keep_50 w.2.2.2.2.1 F n x0 x1 m = some rm → gV X w 0 0 (gR X w none rm) 2 50 [(0, .ref x0), (1, .int x1)] [] m := by
  intro n
  induction n with
  | zero => intro x0 x1 m h; cases h
  | succ n ih => intro x0 x1 m h; exact tb_X8_keep_50 (F := F) C hr ih h
def b_X8_keep_2 (sh : List gS) (F : Nat) (k2 : Nat → Int32 → gM → Option (gM)) (x0 : Nat) (x1 : Int32) (m : gM) : Option (gM) :=
  g_if (oB sh x0 8) (if (m.1 x0 10) ≤ x1 then (nm (gsI m x0 24 (m.1 x0 10)) (fun m3 => l_X8_keep_50 sh F F x0 0 m3)) else ((m.2.2 x0 22).bind (fun t4 => (m.2.2 x0 8).bind (fun t5 => g_if (aB sh t5 .int x1) (g_if (aB sh t4 .int x1) (nm (gsI m t4 (x1).toNatClampNeg (m.1 t5 (x1).toNatClampNeg)) (fun m8 => (m8.2.2 x0 23).bind (fun t9 => (m8.2.2 x0 9).bind (fun t10 => g_if (aB sh t10 .int x1) (g_if (aB sh t9 .int x1) (nm (gsI m8 t9 (x1).toNatClampNeg (m8.1 t10 (x1).toNatClampNeg)) (fun m13 => nm (x1 + Int32.ofInt 1) (fun v14 => k2 x0 v14 m13)))))))))))))
set_option maxRecDepth 100000 in
set_option maxHeartbeats 4000000 in
theorem tb_X8_keep_2 {X : gX} {w : gW} {rm : gM} (C : gC X w K_X8_keep 2 RX8 0) (hr : X.2.2.2.2.2.2.2.2.1.sig.returnType = none) {F : Nat} {k2 : Nat → Int32 → gM → Option (gM)} (hk2 : ∀ (z0 : Nat) (z1 : Int32) (m : gM), k2 z0 z1 m = some rm → gV X w 0 0 (gR X w none rm) 2 2 [(0, .ref z0), (1, .int z1)] [] m) {x0 : Nat} {x1 : Int32} {m : gM} (h : b_X8_keep_2 w.2.2.2.2.1 F k2 x0 x1 m = some rm) : gV X w 0 0 (gR X w none rm) 2 2 [(0, .ref x0), (1, .int x1)] [] m := by
  unfold b_X8_keep_2 at h
  refine v_iload_n (pc := 2) C 2 1 rfl rfl rfl ?_
  refine v_aload_n (pc := 3) C 3 0 rfl rfl rfl ?_
  obtain ⟨o1, h⟩ := g_okk h
  refine v_getI (pc := 4) C 4 rfl lf_ScopeGraphModel_25.get (g_oB o1) rfl ?_
  refine v_icmp_ge (pc := 7) C 5 40 rfl (by decide) (fun c2 => ?_) (fun c2 => ?_)
  · replace h := g_ifT c2 h
    refine v_aload_n (pc := 40) C 24 0 rfl rfl rfl ?_
    refine v_aload_n (pc := 41) C 25 0 rfl rfl rfl ?_
    refine v_getI (pc := 42) C 26 rfl lf_ScopeGraphModel_25.get (g_oB o1) rfl ?_
    refine v_putI (pc := 45) C 27 rfl lf_ScopeGraphModel_283 (g_oB o1) rfl ?_
    refine v_topM (fun m3 em3 => ?_)
    replace h := g_nm h em3
    refine v_iconst (pc := 48) C 28 0 rfl (by decide) ?_
    refine v_istore_n (pc := 49) (lv' := [(1, .int 0), (0, .ref x0)]) C 29 rfl rfl (by decide) rfl ?_
    refine v_sub [(0, .ref x0), (1, .int 0)] [1, 0] rfl ?_
    exact tl_X8_keep_50 (F := F) C hr _ _ _ _ h
  · replace h := g_ifF c2 h
    refine v_aload_n (pc := 10) C 6 0 rfl rfl rfl ?_
    obtain ⟨t4, qt4, h⟩ := g_bd h
    refine v_getR (pc := 11) C 7 rfl lf_ScopeGraphModel_53 (g_oB o1) rfl qt4 ?_
    refine v_iload_n (pc := 14) C 8 1 rfl rfl rfl ?_
    refine v_aload_n (pc := 15) C 9 0 rfl rfl rfl ?_
    obtain ⟨t5, qt5, h⟩ := g_bd h
    refine v_getR (pc := 16) C 10 rfl lf_ScopeGraphModel_19 (g_oB o1) rfl qt5 ?_
    refine v_iload_n (pc := 19) C 11 1 rfl rfl rfl ?_
    obtain ⟨b6, h⟩ := g_okk h
    refine v_iald' (pc := 20) C 12 rfl b6 ?_
    obtain ⟨b7, h⟩ := g_okk h
    refine v_iast' (pc := 21) C 13 rfl b7 ?_
    refine v_topM (fun m8 em8 => ?_)
    replace h := g_nm h em8
    refine v_aload_n (pc := 22) C 14 0 rfl rfl rfl ?_
    obtain ⟨t9, qt9, h⟩ := g_bd h
    refine v_getR (pc := 23) C 15 rfl lf_ScopeGraphModel_56 (g_oB o1) rfl qt9 ?_
    refine v_iload_n (pc := 26) C 16 1 rfl rfl rfl ?_
    refine v_aload_n (pc := 27) C 17 0 rfl rfl rfl ?_
    obtain ⟨t10, qt10, h⟩ := g_bd h
    refine v_getR (pc := 28) C 18 rfl lf_ScopeGraphModel_22 (g_oB o1) rfl qt10 ?_
    refine v_iload_n (pc := 31) C 19 1 rfl rfl rfl ?_
    obtain ⟨b11, h⟩ := g_okk h
    refine v_iald' (pc := 32) C 20 rfl b11 ?_
    obtain ⟨b12, h⟩ := g_okk h
    refine v_iast' (pc := 33) C 21 rfl b12 ?_
    refine v_topM (fun m13 em13 => ?_)
    replace h := g_nm h em13
    refine v_iincN (pc := 34) C 22 1 (fun v14 => [(1, .int v14), (0, .ref x0)]) rfl rfl (by decide) (fun _ => rfl) (fun v14 ev14 => ?_)
    replace h := g_nm h ev14
    refine v_goto (pc := 37) C 23 2 rfl (by decide) ?_
    refine v_sub [(0, .ref x0), (1, .int v14)] [1, 0] rfl ?_
    exact hk2 _ _ _ h
def l_X8_keep_2 (sh : List gS) (F : Nat) : Nat → Nat → Int32 → gM → Option (gM)
  | 0 => fun _ _ _ => none
  | n + 1 => fun x0 x1 m => b_X8_keep_2 sh F (l_X8_keep_2 sh F n) x0 x1 m
theorem tl_X8_keep_2 {X : gX} {w : gW} {rm : gM} (C : gC X w K_X8_keep 2 RX8 0) (hr : X.2.2.2.2.2.2.2.2.1.sig.returnType = none) {F : Nat} : ∀ (n : Nat) (x0 : Nat) (x1 : Int32) (m : gM), l_X8_keep_2 w.2.2.2.2.1 F n x0 x1 m = some rm → gV X w 0 0 (gR X w none rm) 2 2 [(0, .ref x0), (1, .int x1)] [] m := by
  intro n
  induction n with
  | zero => intro x0 x1 m h; cases h
  | succ n ih => intro x0 x1 m h; exact tb_X8_keep_2 (F := F) C hr ih h
def f_X8_keep (sh : List gS) (F : Nat) (x0 : Nat) (m : gM) : Option (gM) :=
  l_X8_keep_2 sh F F x0 0 m
set_option maxRecDepth 100000 in
set_option maxHeartbeats 4000000 in
theorem tf_X8_keep {X : gX} {w : gW} {rm : gM} (C : gC X w K_X8_keep 2 RX8 0) (hr : X.2.2.2.2.2.2.2.2.1.sig.returnType = none) {F : Nat} {x0 : Nat} {m : gM} (h : f_X8_keep w.2.2.2.2.1 F x0 m = some rm) : gV X w 0 0 (gR X w none rm) 2 0 [(0, .ref x0)] [] m := by
  unfold f_X8_keep at h
  refine v_iconst (pc := 0) C 0 0 rfl (by decide) ?_
  refine v_istore_n (pc := 1) (lv' := [(1, .int 0), (0, .ref x0)]) C 1 rfl rfl (by decide) rfl ?_
  refine v_sub [(0, .ref x0), (1, .int 0)] [1, 0] rfl ?_
  exact tl_X8_keep_2 (F := F) C hr _ _ _ _ h
theorem c_X8_keep {l : Launch} {w : gW} {rm : gM} (hJ : gJok w) {F : Nat} {x0 : Nat} {m : gM} (h : f_X8_keep w.2.2.2.2.1 F x0 m = some rm) : gMet l 0 yX8_keep cX8_keep 2 none w [.ref x0] m none rm :=
  gMet.of hJ mf_X8_keep dk_X8_keep (Nat.le_of_ble_eq_true rfl) (fun X _ C hr => tf_X8_keep (F := F) C hr h)
def b_X8_giveBack_130 (sh : List gS) (F : Nat) (k130 : Nat → Int32 → gM → Option (gM)) (x0 : Nat) (x1 : Int32) (m : gM) : Option (gM) :=
  g_if (oB sh x0 8) (if (m.1 x0 20) ≤ x1 then (some m) else ((m.2.2 x0 16).bind (fun t3 => (m.2.2 x0 30).bind (fun t4 => g_if (aB sh t4 .int x1) (g_if (aB sh t3 .int x1) (nm (gsI m t3 (x1).toNatClampNeg (m.1 t4 (x1).toNatClampNeg)) (fun m7 => (m7.2.2 x0 17).bind (fun t8 => (m7.2.2 x0 31).bind (fun t9 => g_if (aB sh t9 .int x1) (g_if (aB sh t8 .int x1) (nm (gsI m7 t8 (x1).toNatClampNeg (m7.1 t9 (x1).toNatClampNeg)) (fun m12 => (m12.2.2 x0 18).bind (fun t13 => (m12.2.2 x0 32).bind (fun t14 => g_if (aB sh t14 .int x1) (g_if (aB sh t13 .int x1) (nm (gsI m12 t13 (x1).toNatClampNeg (m12.1 t14 (x1).toNatClampNeg)) (fun m17 => (m17.2.2 x0 19).bind (fun t18 => (m17.2.2 x0 33).bind (fun t19 => g_if (aB sh t19 .int x1) (g_if (aB sh t18 .int x1) (nm (gsI m17 t18 (x1).toNatClampNeg (m17.1 t19 (x1).toNatClampNeg)) (fun m22 => nm (x1 + Int32.ofInt 1) (fun v23 => k130 x0 v23 m22)))))))))))))))))))))))
set_option maxRecDepth 100000 in
set_option maxHeartbeats 4000000 in
theorem tb_X8_giveBack_130 {X : gX} {w : gW} {rm : gM} (C : gC X w K_X8_giveBack 2 RX8 0) (hr : X.2.2.2.2.2.2.2.2.1.sig.returnType = none) {F : Nat} {k130 : Nat → Int32 → gM → Option (gM)} (hk130 : ∀ (z0 : Nat) (z1 : Int32) (m : gM), k130 z0 z1 m = some rm → gV X w 0 0 (gR X w none rm) 2 130 [(0, .ref z0), (1, .int z1)] [] m) {x0 : Nat} {x1 : Int32} {m : gM} (h : b_X8_giveBack_130 w.2.2.2.2.1 F k130 x0 x1 m = some rm) : gV X w 0 0 (gR X w none rm) 2 130 [(0, .ref x0), (1, .int x1)] [] m := by
  unfold b_X8_giveBack_130 at h
  refine v_iload_n (pc := 130) C 78 1 rfl rfl rfl ?_
  refine v_aload_n (pc := 131) C 79 0 rfl rfl rfl ?_
  obtain ⟨o1, h⟩ := g_okk h
  refine v_getI (pc := 132) C 80 rfl lf_ScopeGraphModel_223.get (g_oB o1) rfl ?_
  refine v_icmp_ge (pc := 135) C 81 192 rfl (by decide) (fun c2 => ?_) (fun c2 => ?_)
  · replace h := g_ifT c2 h
    cases g_s1' h
    exact v_vret (pc := 192) C 116 rfl hr
  · replace h := g_ifF c2 h
    refine v_aload_n (pc := 138) C 82 0 rfl rfl rfl ?_
    obtain ⟨t3, qt3, h⟩ := g_bd h
    refine v_getR (pc := 139) C 83 rfl lf_ScopeGraphModel_41 (g_oB o1) rfl qt3 ?_
    refine v_iload_n (pc := 142) C 84 1 rfl rfl rfl ?_
    refine v_aload_n (pc := 143) C 85 0 rfl rfl rfl ?_
    obtain ⟨t4, qt4, h⟩ := g_bd h
    refine v_getR (pc := 144) C 86 rfl lf_ScopeGraphModel_71 (g_oB o1) rfl qt4 ?_
    refine v_iload_n (pc := 147) C 87 1 rfl rfl rfl ?_
    obtain ⟨b5, h⟩ := g_okk h
    refine v_iald' (pc := 148) C 88 rfl b5 ?_
    obtain ⟨b6, h⟩ := g_okk h
    refine v_iast' (pc := 149) C 89 rfl b6 ?_
    refine v_topM (fun m7 em7 => ?_)
    replace h := g_nm h em7
    refine v_aload_n (pc := 150) C 90 0 rfl rfl rfl ?_
    obtain ⟨t8, qt8, h⟩ := g_bd h
    refine v_getR (pc := 151) C 91 rfl lf_ScopeGraphModel_44 (g_oB o1) rfl qt8 ?_
    refine v_iload_n (pc := 154) C 92 1 rfl rfl rfl ?_
    refine v_aload_n (pc := 155) C 93 0 rfl rfl rfl ?_
    obtain ⟨t9, qt9, h⟩ := g_bd h
    refine v_getR (pc := 156) C 94 rfl lf_ScopeGraphModel_74 (g_oB o1) rfl qt9 ?_
    refine v_iload_n (pc := 159) C 95 1 rfl rfl rfl ?_
    obtain ⟨b10, h⟩ := g_okk h
    refine v_iald' (pc := 160) C 96 rfl b10 ?_
    obtain ⟨b11, h⟩ := g_okk h
    refine v_iast' (pc := 161) C 97 rfl b11 ?_
    refine v_topM (fun m12 em12 => ?_)
    replace h := g_nm h em12
    refine v_aload_n (pc := 162) C 98 0 rfl rfl rfl ?_
    obtain ⟨t13, qt13, h⟩ := g_bd h
    refine v_getR (pc := 163) C 99 rfl lf_ScopeGraphModel_47 (g_oB o1) rfl qt13 ?_
    refine v_iload_n (pc := 166) C 100 1 rfl rfl rfl ?_
    refine v_aload_n (pc := 167) C 101 0 rfl rfl rfl ?_
    obtain ⟨t14, qt14, h⟩ := g_bd h
    refine v_getR (pc := 168) C 102 rfl lf_ScopeGraphModel_77 (g_oB o1) rfl qt14 ?_
    refine v_iload_n (pc := 171) C 103 1 rfl rfl rfl ?_
    obtain ⟨b15, h⟩ := g_okk h
    refine v_iald' (pc := 172) C 104 rfl b15 ?_
    obtain ⟨b16, h⟩ := g_okk h
    refine v_iast' (pc := 173) C 105 rfl b16 ?_
    refine v_topM (fun m17 em17 => ?_)
    replace h := g_nm h em17
    refine v_aload_n (pc := 174) C 106 0 rfl rfl rfl ?_
    obtain ⟨t18, qt18, h⟩ := g_bd h
    refine v_getR (pc := 175) C 107 rfl lf_ScopeGraphModel_50 (g_oB o1) rfl qt18 ?_
    refine v_iload_n (pc := 178) C 108 1 rfl rfl rfl ?_
    refine v_aload_n (pc := 179) C 109 0 rfl rfl rfl ?_
    obtain ⟨t19, qt19, h⟩ := g_bd h
    refine v_getR (pc := 180) C 110 rfl lf_ScopeGraphModel_80 (g_oB o1) rfl qt19 ?_
    refine v_iload_n (pc := 183) C 111 1 rfl rfl rfl ?_
    obtain ⟨b20, h⟩ := g_okk h
    refine v_iald' (pc := 184) C 112 rfl b20 ?_
    obtain ⟨b21, h⟩ := g_okk h
    refine v_iast' (pc := 185) C 113 rfl b21 ?_
    refine v_topM (fun m22 em22 => ?_)
    replace h := g_nm h em22
    refine v_iincN (pc := 186) C 114 1 (fun v23 => [(1, .int v23), (0, .ref x0)]) rfl rfl (by decide) (fun _ => rfl) (fun v23 ev23 => ?_)
    replace h := g_nm h ev23
    refine v_goto (pc := 189) C 115 130 rfl (by decide) ?_
    refine v_sub [(0, .ref x0), (1, .int v23)] [1, 0] rfl ?_
    exact hk130 _ _ _ h
def l_X8_giveBack_130 (sh : List gS) (F : Nat) : Nat → Nat → Int32 → gM → Option (gM)
  | 0 => fun _ _ _ => none
  | n + 1 => fun x0 x1 m => b_X8_giveBack_130 sh F (l_X8_giveBack_130 sh F n) x0 x1 m
theorem tl_X8_giveBack_130 {X : gX} {w : gW} {rm : gM} (C : gC X w K_X8_giveBack 2 RX8 0) (hr : X.2.2.2.2.2.2.2.2.1.sig.returnType = none) {F : Nat} : ∀ (n : Nat) (x0 : Nat) (x1 : Int32) (m : gM), l_X8_giveBack_130 w.2.2.2.2.1 F n x0 x1 m = some rm → gV X w 0 0 (gR X w none rm) 2 130 [(0, .ref x0), (1, .int x1)] [] m := by
  intro n
  induction n with
  | zero => intro x0 x1 m h; cases h
  | succ n ih => intro x0 x1 m h; exact tb_X8_giveBack_130 (F := F) C hr ih h
def b_X8_giveBack_58 (sh : List gS) (F : Nat) (k58 : Nat → Int32 → gM → Option (gM)) (x0 : Nat) (x1 : Int32) (m : gM) : Option (gM) :=
  g_if (oB sh x0 8) (if (m.1 x0 15) ≤ x1 then (nm (gsI m x0 20 (m.1 x0 34)) (fun m3 => l_X8_giveBack_130 sh F F x0 0 m3)) else ((m.2.2 x0 11).bind (fun t4 => (m.2.2 x0 25).bind (fun t5 => g_if (aB sh t5 .int x1) (g_if (aB sh t4 .int x1) (nm (gsI m t4 (x1).toNatClampNeg (m.1 t5 (x1).toNatClampNeg)) (fun m8 => (m8.2.2 x0 12).bind (fun t9 => (m8.2.2 x0 26).bind (fun t10 => g_if (aB sh t10 .int x1) (g_if (aB sh t9 .int x1) (nm (gsI m8 t9 (x1).toNatClampNeg (m8.1 t10 (x1).toNatClampNeg)) (fun m13 => (m13.2.2 x0 13).bind (fun t14 => (m13.2.2 x0 27).bind (fun t15 => g_if (aB sh t15 .int x1) (g_if (aB sh t14 .int x1) (nm (gsI m13 t14 (x1).toNatClampNeg (m13.1 t15 (x1).toNatClampNeg)) (fun m18 => (m18.2.2 x0 14).bind (fun t19 => (m18.2.2 x0 28).bind (fun t20 => g_if (aB sh t20 .int x1) (g_if (aB sh t19 .int x1) (nm (gsI m18 t19 (x1).toNatClampNeg (m18.1 t20 (x1).toNatClampNeg)) (fun m23 => nm (x1 + Int32.ofInt 1) (fun v24 => k58 x0 v24 m23)))))))))))))))))))))))
set_option maxRecDepth 100000 in
set_option maxHeartbeats 4000000 in
theorem tb_X8_giveBack_58 {X : gX} {w : gW} {rm : gM} (C : gC X w K_X8_giveBack 2 RX8 0) (hr : X.2.2.2.2.2.2.2.2.1.sig.returnType = none) {F : Nat} {k58 : Nat → Int32 → gM → Option (gM)} (hk58 : ∀ (z0 : Nat) (z1 : Int32) (m : gM), k58 z0 z1 m = some rm → gV X w 0 0 (gR X w none rm) 2 58 [(0, .ref z0), (1, .int z1)] [] m) {x0 : Nat} {x1 : Int32} {m : gM} (h : b_X8_giveBack_58 w.2.2.2.2.1 F k58 x0 x1 m = some rm) : gV X w 0 0 (gR X w none rm) 2 58 [(0, .ref x0), (1, .int x1)] [] m := by
  unfold b_X8_giveBack_58 at h
  refine v_iload_n (pc := 58) C 34 1 rfl rfl rfl ?_
  refine v_aload_n (pc := 59) C 35 0 rfl rfl rfl ?_
  obtain ⟨o1, h⟩ := g_okk h
  refine v_getI (pc := 60) C 36 rfl lf_ScopeGraphModel_211.get (g_oB o1) rfl ?_
  refine v_icmp_ge (pc := 63) C 37 120 rfl (by decide) (fun c2 => ?_) (fun c2 => ?_)
  · replace h := g_ifT c2 h
    refine v_aload_n (pc := 120) C 72 0 rfl rfl rfl ?_
    refine v_aload_n (pc := 121) C 73 0 rfl rfl rfl ?_
    refine v_getI (pc := 122) C 74 rfl lf_ScopeGraphModel_289.get (g_oB o1) rfl ?_
    refine v_putI (pc := 125) C 75 rfl lf_ScopeGraphModel_223 (g_oB o1) rfl ?_
    refine v_topM (fun m3 em3 => ?_)
    replace h := g_nm h em3
    refine v_iconst (pc := 128) C 76 0 rfl (by decide) ?_
    refine v_istore_n (pc := 129) (lv' := [(1, .int 0), (0, .ref x0)]) C 77 rfl rfl (by decide) rfl ?_
    refine v_sub [(0, .ref x0), (1, .int 0)] [1, 0] rfl ?_
    exact tl_X8_giveBack_130 (F := F) C hr _ _ _ _ h
  · replace h := g_ifF c2 h
    refine v_aload_n (pc := 66) C 38 0 rfl rfl rfl ?_
    obtain ⟨t4, qt4, h⟩ := g_bd h
    refine v_getR (pc := 67) C 39 rfl lf_ScopeGraphModel_29 (g_oB o1) rfl qt4 ?_
    refine v_iload_n (pc := 70) C 40 1 rfl rfl rfl ?_
    refine v_aload_n (pc := 71) C 41 0 rfl rfl rfl ?_
    obtain ⟨t5, qt5, h⟩ := g_bd h
    refine v_getR (pc := 72) C 42 rfl lf_ScopeGraphModel_59 (g_oB o1) rfl qt5 ?_
    refine v_iload_n (pc := 75) C 43 1 rfl rfl rfl ?_
    obtain ⟨b6, h⟩ := g_okk h
    refine v_iald' (pc := 76) C 44 rfl b6 ?_
    obtain ⟨b7, h⟩ := g_okk h
    refine v_iast' (pc := 77) C 45 rfl b7 ?_
    refine v_topM (fun m8 em8 => ?_)
    replace h := g_nm h em8
    refine v_aload_n (pc := 78) C 46 0 rfl rfl rfl ?_
    obtain ⟨t9, qt9, h⟩ := g_bd h
    refine v_getR (pc := 79) C 47 rfl lf_ScopeGraphModel_32 (g_oB o1) rfl qt9 ?_
    refine v_iload_n (pc := 82) C 48 1 rfl rfl rfl ?_
    refine v_aload_n (pc := 83) C 49 0 rfl rfl rfl ?_
    obtain ⟨t10, qt10, h⟩ := g_bd h
    refine v_getR (pc := 84) C 50 rfl lf_ScopeGraphModel_62 (g_oB o1) rfl qt10 ?_
    refine v_iload_n (pc := 87) C 51 1 rfl rfl rfl ?_
    obtain ⟨b11, h⟩ := g_okk h
    refine v_iald' (pc := 88) C 52 rfl b11 ?_
    obtain ⟨b12, h⟩ := g_okk h
    refine v_iast' (pc := 89) C 53 rfl b12 ?_
    refine v_topM (fun m13 em13 => ?_)
    replace h := g_nm h em13
    refine v_aload_n (pc := 90) C 54 0 rfl rfl rfl ?_
    obtain ⟨t14, qt14, h⟩ := g_bd h
    refine v_getR (pc := 91) C 55 rfl lf_ScopeGraphModel_35 (g_oB o1) rfl qt14 ?_
    refine v_iload_n (pc := 94) C 56 1 rfl rfl rfl ?_
    refine v_aload_n (pc := 95) C 57 0 rfl rfl rfl ?_
    obtain ⟨t15, qt15, h⟩ := g_bd h
    refine v_getR (pc := 96) C 58 rfl lf_ScopeGraphModel_65 (g_oB o1) rfl qt15 ?_
    refine v_iload_n (pc := 99) C 59 1 rfl rfl rfl ?_
    obtain ⟨b16, h⟩ := g_okk h
    refine v_iald' (pc := 100) C 60 rfl b16 ?_
    obtain ⟨b17, h⟩ := g_okk h
    refine v_iast' (pc := 101) C 61 rfl b17 ?_
    refine v_topM (fun m18 em18 => ?_)
    replace h := g_nm h em18
    refine v_aload_n (pc := 102) C 62 0 rfl rfl rfl ?_
    obtain ⟨t19, qt19, h⟩ := g_bd h
    refine v_getR (pc := 103) C 63 rfl lf_ScopeGraphModel_38 (g_oB o1) rfl qt19 ?_
    refine v_iload_n (pc := 106) C 64 1 rfl rfl rfl ?_
    refine v_aload_n (pc := 107) C 65 0 rfl rfl rfl ?_
    obtain ⟨t20, qt20, h⟩ := g_bd h
    refine v_getR (pc := 108) C 66 rfl lf_ScopeGraphModel_68 (g_oB o1) rfl qt20 ?_
    refine v_iload_n (pc := 111) C 67 1 rfl rfl rfl ?_
    obtain ⟨b21, h⟩ := g_okk h
    refine v_iald' (pc := 112) C 68 rfl b21 ?_
    obtain ⟨b22, h⟩ := g_okk h
    refine v_iast' (pc := 113) C 69 rfl b22 ?_
    refine v_topM (fun m23 em23 => ?_)
    replace h := g_nm h em23
    refine v_iincN (pc := 114) C 70 1 (fun v24 => [(1, .int v24), (0, .ref x0)]) rfl rfl (by decide) (fun _ => rfl) (fun v24 ev24 => ?_)
    replace h := g_nm h ev24
    refine v_goto (pc := 117) C 71 58 rfl (by decide) ?_
    refine v_sub [(0, .ref x0), (1, .int v24)] [1, 0] rfl ?_
    exact hk58 _ _ _ h
def l_X8_giveBack_58 (sh : List gS) (F : Nat) : Nat → Nat → Int32 → gM → Option (gM)
  | 0 => fun _ _ _ => none
  | n + 1 => fun x0 x1 m => b_X8_giveBack_58 sh F (l_X8_giveBack_58 sh F n) x0 x1 m
theorem tl_X8_giveBack_58 {X : gX} {w : gW} {rm : gM} (C : gC X w K_X8_giveBack 2 RX8 0) (hr : X.2.2.2.2.2.2.2.2.1.sig.returnType = none) {F : Nat} : ∀ (n : Nat) (x0 : Nat) (x1 : Int32) (m : gM), l_X8_giveBack_58 w.2.2.2.2.1 F n x0 x1 m = some rm → gV X w 0 0 (gR X w none rm) 2 58 [(0, .ref x0), (1, .int x1)] [] m := by
  intro n
  induction n with
  | zero => intro x0 x1 m h; cases h
  | succ n ih => intro x0 x1 m h; exact tb_X8_giveBack_58 (F := F) C hr ih h
def b_X8_giveBack_10 (sh : List gS) (F : Nat) (k10 : Nat → Int32 → gM → Option (gM)) (x0 : Nat) (x1 : Int32) (m : gM) : Option (gM) :=
  g_if (oB sh x0 8) (if (m.1 x0 10) ≤ x1 then (nm (gsI m x0 15 (m.1 x0 29)) (fun m3 => l_X8_giveBack_58 sh F F x0 0 m3)) else ((m.2.2 x0 8).bind (fun t4 => (m.2.2 x0 22).bind (fun t5 => g_if (aB sh t5 .int x1) (g_if (aB sh t4 .int x1) (nm (gsI m t4 (x1).toNatClampNeg (m.1 t5 (x1).toNatClampNeg)) (fun m8 => (m8.2.2 x0 9).bind (fun t9 => (m8.2.2 x0 23).bind (fun t10 => g_if (aB sh t10 .int x1) (g_if (aB sh t9 .int x1) (nm (gsI m8 t9 (x1).toNatClampNeg (m8.1 t10 (x1).toNatClampNeg)) (fun m13 => nm (x1 + Int32.ofInt 1) (fun v14 => k10 x0 v14 m13)))))))))))))
set_option maxRecDepth 100000 in
set_option maxHeartbeats 4000000 in
theorem tb_X8_giveBack_10 {X : gX} {w : gW} {rm : gM} (C : gC X w K_X8_giveBack 2 RX8 0) (hr : X.2.2.2.2.2.2.2.2.1.sig.returnType = none) {F : Nat} {k10 : Nat → Int32 → gM → Option (gM)} (hk10 : ∀ (z0 : Nat) (z1 : Int32) (m : gM), k10 z0 z1 m = some rm → gV X w 0 0 (gR X w none rm) 2 10 [(0, .ref z0), (1, .int z1)] [] m) {x0 : Nat} {x1 : Int32} {m : gM} (h : b_X8_giveBack_10 w.2.2.2.2.1 F k10 x0 x1 m = some rm) : gV X w 0 0 (gR X w none rm) 2 10 [(0, .ref x0), (1, .int x1)] [] m := by
  unfold b_X8_giveBack_10 at h
  refine v_iload_n (pc := 10) C 6 1 rfl rfl rfl ?_
  refine v_aload_n (pc := 11) C 7 0 rfl rfl rfl ?_
  obtain ⟨o1, h⟩ := g_okk h
  refine v_getI (pc := 12) C 8 rfl lf_ScopeGraphModel_25.get (g_oB o1) rfl ?_
  refine v_icmp_ge (pc := 15) C 9 48 rfl (by decide) (fun c2 => ?_) (fun c2 => ?_)
  · replace h := g_ifT c2 h
    refine v_aload_n (pc := 48) C 28 0 rfl rfl rfl ?_
    refine v_aload_n (pc := 49) C 29 0 rfl rfl rfl ?_
    refine v_getI (pc := 50) C 30 rfl lf_ScopeGraphModel_286.get (g_oB o1) rfl ?_
    refine v_putI (pc := 53) C 31 rfl lf_ScopeGraphModel_211 (g_oB o1) rfl ?_
    refine v_topM (fun m3 em3 => ?_)
    replace h := g_nm h em3
    refine v_iconst (pc := 56) C 32 0 rfl (by decide) ?_
    refine v_istore_n (pc := 57) (lv' := [(1, .int 0), (0, .ref x0)]) C 33 rfl rfl (by decide) rfl ?_
    refine v_sub [(0, .ref x0), (1, .int 0)] [1, 0] rfl ?_
    exact tl_X8_giveBack_58 (F := F) C hr _ _ _ _ h
  · replace h := g_ifF c2 h
    refine v_aload_n (pc := 18) C 10 0 rfl rfl rfl ?_
    obtain ⟨t4, qt4, h⟩ := g_bd h
    refine v_getR (pc := 19) C 11 rfl lf_ScopeGraphModel_19 (g_oB o1) rfl qt4 ?_
    refine v_iload_n (pc := 22) C 12 1 rfl rfl rfl ?_
    refine v_aload_n (pc := 23) C 13 0 rfl rfl rfl ?_
    obtain ⟨t5, qt5, h⟩ := g_bd h
    refine v_getR (pc := 24) C 14 rfl lf_ScopeGraphModel_53 (g_oB o1) rfl qt5 ?_
    refine v_iload_n (pc := 27) C 15 1 rfl rfl rfl ?_
    obtain ⟨b6, h⟩ := g_okk h
    refine v_iald' (pc := 28) C 16 rfl b6 ?_
    obtain ⟨b7, h⟩ := g_okk h
    refine v_iast' (pc := 29) C 17 rfl b7 ?_
    refine v_topM (fun m8 em8 => ?_)
    replace h := g_nm h em8
    refine v_aload_n (pc := 30) C 18 0 rfl rfl rfl ?_
    obtain ⟨t9, qt9, h⟩ := g_bd h
    refine v_getR (pc := 31) C 19 rfl lf_ScopeGraphModel_22 (g_oB o1) rfl qt9 ?_
    refine v_iload_n (pc := 34) C 20 1 rfl rfl rfl ?_
    refine v_aload_n (pc := 35) C 21 0 rfl rfl rfl ?_
    obtain ⟨t10, qt10, h⟩ := g_bd h
    refine v_getR (pc := 36) C 22 rfl lf_ScopeGraphModel_56 (g_oB o1) rfl qt10 ?_
    refine v_iload_n (pc := 39) C 23 1 rfl rfl rfl ?_
    obtain ⟨b11, h⟩ := g_okk h
    refine v_iald' (pc := 40) C 24 rfl b11 ?_
    obtain ⟨b12, h⟩ := g_okk h
    refine v_iast' (pc := 41) C 25 rfl b12 ?_
    refine v_topM (fun m13 em13 => ?_)
    replace h := g_nm h em13
    refine v_iincN (pc := 42) C 26 1 (fun v14 => [(1, .int v14), (0, .ref x0)]) rfl rfl (by decide) (fun _ => rfl) (fun v14 ev14 => ?_)
    replace h := g_nm h ev14
    refine v_goto (pc := 45) C 27 10 rfl (by decide) ?_
    refine v_sub [(0, .ref x0), (1, .int v14)] [1, 0] rfl ?_
    exact hk10 _ _ _ h
def l_X8_giveBack_10 (sh : List gS) (F : Nat) : Nat → Nat → Int32 → gM → Option (gM)
  | 0 => fun _ _ _ => none
  | n + 1 => fun x0 x1 m => b_X8_giveBack_10 sh F (l_X8_giveBack_10 sh F n) x0 x1 m
theorem tl_X8_giveBack_10 {X : gX} {w : gW} {rm : gM} (C : gC X w K_X8_giveBack 2 RX8 0) (hr : X.2.2.2.2.2.2.2.2.1.sig.returnType = none) {F : Nat} : ∀ (n : Nat) (x0 : Nat) (x1 : Int32) (m : gM), l_X8_giveBack_10 w.2.2.2.2.1 F n x0 x1 m = some rm → gV X w 0 0 (gR X w none rm) 2 10 [(0, .ref x0), (1, .int x1)] [] m := by
  intro n
  induction n with
  | zero => intro x0 x1 m h; cases h
  | succ n ih => intro x0 x1 m h; exact tb_X8_giveBack_10 (F := F) C hr ih h
def f_X8_giveBack (sh : List gS) (F : Nat) (x0 : Nat) (m : gM) : Option (gM) :=
  g_if (oB sh x0 8) (nm (gsI m x0 10 (m.1 x0 24)) (fun m2 => l_X8_giveBack_10 sh F F x0 0 m2))
set_option maxRecDepth 100000 in
set_option maxHeartbeats 4000000 in
theorem tf_X8_giveBack {X : gX} {w : gW} {rm : gM} (C : gC X w K_X8_giveBack 2 RX8 0) (hr : X.2.2.2.2.2.2.2.2.1.sig.returnType = none) {F : Nat} {x0 : Nat} {m : gM} (h : f_X8_giveBack w.2.2.2.2.1 F x0 m = some rm) : gV X w 0 0 (gR X w none rm) 2 0 [(0, .ref x0)] [] m := by
  unfold f_X8_giveBack at h
  refine v_aload_n (pc := 0) C 0 0 rfl rfl rfl ?_
  refine v_aload_n (pc := 1) C 1 0 rfl rfl rfl ?_
  obtain ⟨o1, h⟩ := g_okk h
  refine v_getI (pc := 2) C 2 rfl lf_ScopeGraphModel_283.get (g_oB o1) rfl ?_
  refine v_putI (pc := 5) C 3 rfl lf_ScopeGraphModel_25 (g_oB o1) rfl ?_
  refine v_topM (fun m2 em2 => ?_)
  replace h := g_nm h em2
  refine v_iconst (pc := 8) C 4 0 rfl (by decide) ?_
  refine v_istore_n (pc := 9) (lv' := [(1, .int 0), (0, .ref x0)]) C 5 rfl rfl (by decide) rfl ?_
  refine v_sub [(0, .ref x0), (1, .int 0)] [1, 0] rfl ?_
  exact tl_X8_giveBack_10 (F := F) C hr _ _ _ _ h
theorem c_X8_giveBack {l : Launch} {w : gW} {rm : gM} (hJ : gJok w) {F : Nat} {x0 : Nat} {m : gM} (h : f_X8_giveBack w.2.2.2.2.1 F x0 m = some rm) : gMet l 0 yX8_giveBack cX8_giveBack 2 none w [.ref x0] m none rm :=
  gMet.of hJ mf_X8_giveBack dk_X8_giveBack (Nat.le_of_ble_eq_true rfl) (fun X _ C hr => tf_X8_giveBack (F := F) C hr h)
def f_X8_ask (sh : List gS) (F : Nat) (x0 : Nat) (x1 : Int32) (x2 : Int32) (x3 : Int32) (x4 : Int64) (x6 : Int64) (x8 : Int64) (m : gM) : Option (gM) :=
  g_if (oB sh x0 8) ((m.2.2 x0 54).bind (fun t2 => g_if (aB sh t2 .int (m.1 x0 64)) (nm (gsI m t2 (m.1 x0 64).toNatClampNeg x1) (fun m4 => (m4.2.2 x0 55).bind (fun t5 => g_if (aB sh t5 .int (m4.1 x0 64)) (nm (gsI m4 t5 (m4.1 x0 64).toNatClampNeg 0) (fun m7 => (m7.2.2 x0 56).bind (fun t8 => g_if (aB sh t8 .int (m7.1 x0 64)) (nm (gsI m7 t8 (m7.1 x0 64).toNatClampNeg x2) (fun m10 => (m10.2.2 x0 57).bind (fun t11 => g_if (aB sh t11 .int (m10.1 x0 64)) (nm (gsI m10 t11 (m10.1 x0 64).toNatClampNeg x3) (fun m13 => (m13.2.2 x0 58).bind (fun t14 => g_if (aB sh t14 .long (m13.1 x0 64)) (nm (gsL m13 t14 (m13.1 x0 64).toNatClampNeg x4) (fun m16 => (m16.2.2 x0 59).bind (fun t17 => g_if (aB sh t17 .long (m16.1 x0 64)) (nm (gsL m16 t17 (m16.1 x0 64).toNatClampNeg x6) (fun m19 => (m19.2.2 x0 60).bind (fun t20 => g_if (aB sh t20 .long (m19.1 x0 64)) (nm (gsL m19 t20 (m19.1 x0 64).toNatClampNeg x8) (fun m22 => (m22.2.2 x0 61).bind (fun t23 => g_if (aB sh t23 .long (m22.1 x0 64)) (nm (gsL m22 t23 (m22.1 x0 64).toNatClampNeg 0) (fun m25 => nm (gsI m25 x0 64 ((m25.1 x0 64) + (1 : Int32))) (fun m26 => some m26))))))))))))))))))))))))))
set_option maxRecDepth 100000 in
set_option maxHeartbeats 4000000 in
theorem tf_X8_ask {X : gX} {w : gW} {rm : gM} (C : gC X w K_X8_ask 10 RX8 0) (hr : X.2.2.2.2.2.2.2.2.1.sig.returnType = none) {F : Nat} {x0 : Nat} {x1 : Int32} {x2 : Int32} {x3 : Int32} {x4 : Int64} {x6 : Int64} {x8 : Int64} {m : gM} (h : f_X8_ask w.2.2.2.2.1 F x0 x1 x2 x3 x4 x6 x8 m = some rm) : gV X w 0 0 (gR X w none rm) 10 0 [(0, .ref x0), (1, .int x1), (2, .int x2), (3, .int x3), (4, .long x4), (6, .long x6), (8, .long x8)] [] m := by
  unfold f_X8_ask at h
  refine v_aload_n (pc := 0) C 0 0 rfl rfl rfl ?_
  obtain ⟨o1, h⟩ := g_okk h
  obtain ⟨t2, qt2, h⟩ := g_bd h
  refine v_getR (pc := 1) C 1 rfl lf_ScopeGraphModel_107 (g_oB o1) rfl qt2 ?_
  refine v_aload_n (pc := 4) C 2 0 rfl rfl rfl ?_
  refine v_getI (pc := 5) C 3 rfl lf_ScopeGraphModel_321.get (g_oB o1) rfl ?_
  refine v_iload_n (pc := 8) C 4 1 rfl rfl rfl ?_
  obtain ⟨b3, h⟩ := g_okk h
  refine v_iast' (pc := 9) C 5 rfl b3 ?_
  refine v_topM (fun m4 em4 => ?_)
  replace h := g_nm h em4
  refine v_aload_n (pc := 10) C 6 0 rfl rfl rfl ?_
  obtain ⟨t5, qt5, h⟩ := g_bd h
  refine v_getR (pc := 11) C 7 rfl lf_ScopeGraphModel_110 (g_oB o1) rfl qt5 ?_
  refine v_aload_n (pc := 14) C 8 0 rfl rfl rfl ?_
  refine v_getI (pc := 15) C 9 rfl lf_ScopeGraphModel_321.get (g_oB o1) rfl ?_
  refine v_iconst (pc := 18) C 10 0 rfl (by decide) ?_
  obtain ⟨b6, h⟩ := g_okk h
  refine v_iast' (pc := 19) C 11 rfl b6 ?_
  refine v_topM (fun m7 em7 => ?_)
  replace h := g_nm h em7
  refine v_aload_n (pc := 20) C 12 0 rfl rfl rfl ?_
  obtain ⟨t8, qt8, h⟩ := g_bd h
  refine v_getR (pc := 21) C 13 rfl lf_ScopeGraphModel_113 (g_oB o1) rfl qt8 ?_
  refine v_aload_n (pc := 24) C 14 0 rfl rfl rfl ?_
  refine v_getI (pc := 25) C 15 rfl lf_ScopeGraphModel_321.get (g_oB o1) rfl ?_
  refine v_iload_n (pc := 28) C 16 2 rfl rfl rfl ?_
  obtain ⟨b9, h⟩ := g_okk h
  refine v_iast' (pc := 29) C 17 rfl b9 ?_
  refine v_topM (fun m10 em10 => ?_)
  replace h := g_nm h em10
  refine v_aload_n (pc := 30) C 18 0 rfl rfl rfl ?_
  obtain ⟨t11, qt11, h⟩ := g_bd h
  refine v_getR (pc := 31) C 19 rfl lf_ScopeGraphModel_116 (g_oB o1) rfl qt11 ?_
  refine v_aload_n (pc := 34) C 20 0 rfl rfl rfl ?_
  refine v_getI (pc := 35) C 21 rfl lf_ScopeGraphModel_321.get (g_oB o1) rfl ?_
  refine v_iload_n (pc := 38) C 22 3 rfl rfl rfl ?_
  obtain ⟨b12, h⟩ := g_okk h
  refine v_iast' (pc := 39) C 23 rfl b12 ?_
  refine v_topM (fun m13 em13 => ?_)
  replace h := g_nm h em13
  refine v_aload_n (pc := 40) C 24 0 rfl rfl rfl ?_
  obtain ⟨t14, qt14, h⟩ := g_bd h
  refine v_getR (pc := 41) C 25 rfl lf_ScopeGraphModel_119 (g_oB o1) rfl qt14 ?_
  refine v_aload_n (pc := 44) C 26 0 rfl rfl rfl ?_
  refine v_getI (pc := 45) C 27 rfl lf_ScopeGraphModel_321.get (g_oB o1) rfl ?_
  refine v_lload (pc := 48) C 28 4 rfl rfl ?_
  obtain ⟨b15, h⟩ := g_okk h
  refine v_last' (pc := 50) C 29 rfl b15 ?_
  refine v_topM (fun m16 em16 => ?_)
  replace h := g_nm h em16
  refine v_aload_n (pc := 51) C 30 0 rfl rfl rfl ?_
  obtain ⟨t17, qt17, h⟩ := g_bd h
  refine v_getR (pc := 52) C 31 rfl lf_ScopeGraphModel_123 (g_oB o1) rfl qt17 ?_
  refine v_aload_n (pc := 55) C 32 0 rfl rfl rfl ?_
  refine v_getI (pc := 56) C 33 rfl lf_ScopeGraphModel_321.get (g_oB o1) rfl ?_
  refine v_lload (pc := 59) C 34 5 rfl rfl ?_
  obtain ⟨b18, h⟩ := g_okk h
  refine v_last' (pc := 61) C 35 rfl b18 ?_
  refine v_topM (fun m19 em19 => ?_)
  replace h := g_nm h em19
  refine v_aload_n (pc := 62) C 36 0 rfl rfl rfl ?_
  obtain ⟨t20, qt20, h⟩ := g_bd h
  refine v_getR (pc := 63) C 37 rfl lf_ScopeGraphModel_126 (g_oB o1) rfl qt20 ?_
  refine v_aload_n (pc := 66) C 38 0 rfl rfl rfl ?_
  refine v_getI (pc := 67) C 39 rfl lf_ScopeGraphModel_321.get (g_oB o1) rfl ?_
  refine v_lload (pc := 70) C 40 6 rfl rfl ?_
  obtain ⟨b21, h⟩ := g_okk h
  refine v_last' (pc := 72) C 41 rfl b21 ?_
  refine v_topM (fun m22 em22 => ?_)
  replace h := g_nm h em22
  refine v_aload_n (pc := 73) C 42 0 rfl rfl rfl ?_
  obtain ⟨t23, qt23, h⟩ := g_bd h
  refine v_getR (pc := 74) C 43 rfl lf_ScopeGraphModel_129 (g_oB o1) rfl qt23 ?_
  refine v_aload_n (pc := 77) C 44 0 rfl rfl rfl ?_
  refine v_getI (pc := 78) C 45 rfl lf_ScopeGraphModel_321.get (g_oB o1) rfl ?_
  refine v_lconst (pc := 81) C 46 0 rfl (by decide) ?_
  obtain ⟨b24, h⟩ := g_okk h
  refine v_last' (pc := 82) C 47 rfl b24 ?_
  refine v_topM (fun m25 em25 => ?_)
  replace h := g_nm h em25
  refine v_aload_n (pc := 83) C 48 0 rfl rfl rfl ?_
  refine v_dup (pc := 84) C 49 rfl rfl ?_
  refine v_getI (pc := 85) C 50 rfl lf_ScopeGraphModel_321.get (g_oB o1) rfl ?_
  refine v_iconst (pc := 88) C 51 1 rfl (by decide) ?_
  refine v_iadd (pc := 89) C 52 rfl ?_
  refine v_putI (pc := 90) C 53 rfl lf_ScopeGraphModel_321 (g_oB o1) rfl ?_
  refine v_topM (fun m26 em26 => ?_)
  replace h := g_nm h em26
  cases g_s1' h
  exact v_vret (pc := 93) C 54 rfl hr
theorem c_X8_ask {l : Launch} {w : gW} {rm : gM} (hJ : gJok w) {F : Nat} {x0 : Nat} {x1 : Int32} {x2 : Int32} {x3 : Int32} {x4 : Int64} {x6 : Int64} {x8 : Int64} {m : gM} (h : f_X8_ask w.2.2.2.2.1 F x0 x1 x2 x3 x4 x6 x8 m = some rm) : gMet l 0 yX8_ask cX8_ask 10 none w [.ref x0, .int x1, .int x2, .int x3, .long x4, .long x6, .long x8] m none rm :=
  gMet.of hJ mf_X8_ask dk_X8_ask (Nat.le_of_ble_eq_true rfl) (fun X _ C hr => tf_X8_ask (F := F) C hr h)
def b_X8_askMeans_49 (sh : List gS) (F : Nat) (y0 : Int64) (y1 : Int64) (y2 : Int32) (y3 : Int32) (y4 : Int32) (y5 : Nat) (m : gM) : Option (gM) :=
  g_if (oB sh y5 8) ((f_X8_ask sh F y5 y4 y3 y2 y1 y0 0 m).bind (fun m2 => some m2))
set_option maxRecDepth 100000 in
set_option maxHeartbeats 4000000 in
theorem tb_X8_askMeans_49 {X : gX} {w : gW} {rm : gM} (C : gC X w K_X8_askMeans 6 RX8 1) (hr : X.2.2.2.2.2.2.2.2.1.sig.returnType = none) {F : Nat} {y0 : Int64} {y1 : Int64} {y2 : Int32} {y3 : Int32} {y4 : Int32} {y5 : Nat} {m : gM} (h : b_X8_askMeans_49 w.2.2.2.2.1 F y0 y1 y2 y3 y4 y5 m = some rm) : gV X w 0 0 (gR X w none rm) 6 49 [] [.long y0, .long y1, .int y2, .int y3, .int y4, .ref y5] m := by
  unfold b_X8_askMeans_49 at h
  refine v_lconst (pc := 49) C 32 0 rfl (by decide) ?_
  obtain ⟨o1, h⟩ := g_okk h
  obtain ⟨m2, qm2, h⟩ := g_bd h
  refine v_callV (pc := 50) C 33 rfl mf_X8_ask clX8 rfl im_X8_ask lm_ScopeGraphModel_347 (c_X8_ask C.2.2.2.2.2.2.2.2.2.2.2 qm2) (by decide) rfl (g_oB o1) (Nat.le_of_ble_eq_true rfl) ⟨Nat.zero_le _, Nat.zero_le _⟩ rfl ?_
  change gV X w 0 0 (gR X w none rm) 6 53 [] [] m2
  cases g_s1' h
  exact v_vret (pc := 53) C 34 rfl hr
def b_X8_askMeans_29 (sh : List gS) (F : Nat) (x1 : Int32) (x4 : Int64) (y0 : Int64) (y1 : Int32) (y2 : Int32) (y3 : Int32) (y4 : Nat) (m : gM) : Option (gM) :=
  if (50 : Int32) ≤ x1 then (b_X8_askMeans_49 sh F (x4 ||| ((1 : Int64) <<< ((x1 - (50 : Int32)).toInt64 &&& 63))) y0 y1 y2 y3 y4 m) else (b_X8_askMeans_49 sh F x4 y0 y1 y2 y3 y4 m)
set_option maxRecDepth 100000 in
set_option maxHeartbeats 4000000 in
theorem tb_X8_askMeans_29 {X : gX} {w : gW} {rm : gM} (C : gC X w K_X8_askMeans 6 RX8 1) (hr : X.2.2.2.2.2.2.2.2.1.sig.returnType = none) {F : Nat} {x1 : Int32} {x4 : Int64} {y0 : Int64} {y1 : Int32} {y2 : Int32} {y3 : Int32} {y4 : Nat} {m : gM} (h : b_X8_askMeans_29 w.2.2.2.2.1 F x1 x4 y0 y1 y2 y3 y4 m = some rm) : gV X w 0 0 (gR X w none rm) 6 29 [(1, .int x1), (4, .long x4)] [.long y0, .int y1, .int y2, .int y3, .ref y4] m := by
  unfold b_X8_askMeans_29 at h
  refine v_iload_n (pc := 29) C 20 0 rfl rfl rfl ?_
  refine v_bipush (pc := 30) C 21 50 rfl (by decide) ?_
  refine v_icmp_ge (pc := 32) C 22 40 rfl (by decide) (fun c1 => ?_) (fun c1 => ?_)
  · replace h := g_ifT c1 h
    refine v_lload (pc := 40) C 25 1 rfl rfl ?_
    refine v_lconst (pc := 42) C 26 1 rfl (by decide) ?_
    refine v_iload_n (pc := 43) C 27 0 rfl rfl rfl ?_
    refine v_bipush (pc := 44) C 28 50 rfl (by decide) ?_
    refine v_isub (pc := 46) C 29 rfl ?_
    refine v_lshl (pc := 47) C 30 rfl ?_
    refine v_lor (pc := 48) C 31 rfl ?_
    refine v_sub [] [] rfl ?_
    exact tb_X8_askMeans_49 (F := F) C hr h
  · replace h := g_ifF c1 h
    refine v_lload (pc := 35) C 23 1 rfl rfl ?_
    refine v_goto (pc := 37) C 24 49 rfl (by decide) ?_
    refine v_sub [] [] rfl ?_
    exact tb_X8_askMeans_49 (F := F) C hr h
def f_X8_askMeans (sh : List gS) (F : Nat) (x0 : Nat) (x1 : Int32) (x2 : Int64) (x4 : Int64) (m : gM) : Option (gM) :=
  g_if (oB sh x0 8) ((m.2.2 x0 16).bind (fun t2 => g_if (aB sh t2 .int x1) ((m.2.2 x0 53).bind (fun t4 => g_if (aB sh t4 .int x1) (if (50 : Int32) ≤ x1 then (b_X8_askMeans_29 sh F x1 x4 x2 (m.1 t4 (x1).toNatClampNeg) (m.1 t2 (x1).toNatClampNeg) 0 x0 m) else (b_X8_askMeans_29 sh F x1 x4 (x2 ||| ((1 : Int64) <<< (x1.toInt64 &&& 63))) (m.1 t4 (x1).toNatClampNeg) (m.1 t2 (x1).toNatClampNeg) 0 x0 m))))))
set_option maxRecDepth 100000 in
set_option maxHeartbeats 4000000 in
theorem tf_X8_askMeans {X : gX} {w : gW} {rm : gM} (C : gC X w K_X8_askMeans 6 RX8 1) (hr : X.2.2.2.2.2.2.2.2.1.sig.returnType = none) {F : Nat} {x0 : Nat} {x1 : Int32} {x2 : Int64} {x4 : Int64} {m : gM} (h : f_X8_askMeans w.2.2.2.2.1 F x0 x1 x2 x4 m = some rm) : gV X w 0 0 (gR X w none rm) 6 0 [(0, .ref x0), (1, .int x1), (2, .long x2), (4, .long x4)] [] m := by
  unfold f_X8_askMeans at h
  refine v_aload_n (pc := 0) C 0 0 rfl rfl rfl ?_
  refine v_iconst (pc := 1) C 1 0 rfl (by decide) ?_
  refine v_aload_n (pc := 2) C 2 0 rfl rfl rfl ?_
  obtain ⟨o1, h⟩ := g_okk h
  obtain ⟨t2, qt2, h⟩ := g_bd h
  refine v_getR (pc := 3) C 3 rfl lf_ScopeGraphModel_41 (g_oB o1) rfl qt2 ?_
  refine v_iload_n (pc := 6) C 4 1 rfl rfl rfl ?_
  obtain ⟨b3, h⟩ := g_okk h
  refine v_iald' (pc := 7) C 5 rfl b3 ?_
  refine v_aload_n (pc := 8) C 6 0 rfl rfl rfl ?_
  obtain ⟨t4, qt4, h⟩ := g_bd h
  refine v_getR (pc := 9) C 7 rfl lf_ScopeGraphModel_104 (g_oB o1) rfl qt4 ?_
  refine v_iload_n (pc := 12) C 8 1 rfl rfl rfl ?_
  obtain ⟨b5, h⟩ := g_okk h
  refine v_iald' (pc := 13) C 9 rfl b5 ?_
  refine v_iload_n (pc := 14) C 10 1 rfl rfl rfl ?_
  refine v_bipush (pc := 15) C 11 50 rfl (by decide) ?_
  refine v_icmp_ge (pc := 17) C 12 28 rfl (by decide) (fun c6 => ?_) (fun c6 => ?_)
  · replace h := g_ifT c6 h
    refine v_lload_n (pc := 28) C 19 2 rfl rfl rfl ?_
    refine v_sub [(1, .int x1), (4, .long x4)] [1, 3] rfl ?_
    exact tb_X8_askMeans_29 (F := F) C hr h
  · replace h := g_ifF c6 h
    refine v_lload_n (pc := 20) C 13 2 rfl rfl rfl ?_
    refine v_lconst (pc := 21) C 14 1 rfl (by decide) ?_
    refine v_iload_n (pc := 22) C 15 1 rfl rfl rfl ?_
    refine v_lshl (pc := 23) C 16 rfl ?_
    refine v_lor (pc := 24) C 17 rfl ?_
    refine v_goto (pc := 25) C 18 29 rfl (by decide) ?_
    refine v_sub [(1, .int x1), (4, .long x4)] [1, 3] rfl ?_
    exact tb_X8_askMeans_29 (F := F) C hr h
theorem c_X8_askMeans {l : Launch} {w : gW} {rm : gM} (hJ : gJok w) {F : Nat} {x0 : Nat} {x1 : Int32} {x2 : Int64} {x4 : Int64} {m : gM} (h : f_X8_askMeans w.2.2.2.2.1 F x0 x1 x2 x4 m = some rm) : gMet l 1 yX8_askMeans cX8_askMeans 6 none w [.ref x0, .int x1, .long x2, .long x4] m none rm :=
  gMet.of hJ mf_X8_askMeans dk_X8_askMeans (Nat.le_of_ble_eq_true rfl) (fun X _ C hr => tf_X8_askMeans (F := F) C hr h)
def f_X8_has (sh : List gS) (F : Nat) (x0 : Int64) (x2 : Int32) (m : gM) : Option (Int32 × gM) :=
  if ((x0 >>> (x2.toInt64 &&& 63)) &&& (1 : Int64)) = (1 : Int64) then (some (1, m)) else (some (0, m))
set_option maxRecDepth 100000 in
set_option maxHeartbeats 4000000 in
theorem tf_X8_has {X : gX} {w : gW} {rr : Int32} {rm : gM} (C : gC X w K_X8_has 3 RX8 0) (hr : X.2.2.2.2.2.2.2.2.1.sig.returnType = (some .boolean)) {F : Nat} {x0 : Int64} {x2 : Int32} {m : gM} (h : f_X8_has w.2.2.2.2.1 F x0 x2 m = some (rr, rm)) : gV X w 0 0 (gR X w (some (.int rr)) rm) 3 0 [(0, .long x0), (2, .int x2)] [] m := by
  unfold f_X8_has at h
  refine v_lload_n (pc := 0) C 0 0 rfl rfl rfl ?_
  refine v_iload_n (pc := 1) C 1 1 rfl rfl rfl ?_
  refine v_lshr (pc := 2) C 2 rfl ?_
  refine v_lconst (pc := 3) C 3 1 rfl (by decide) ?_
  refine v_land (pc := 4) C 4 rfl ?_
  refine v_lconst (pc := 5) C 5 1 rfl (by decide) ?_
  refine v_lcmp (pc := 6) C 6 rfl ?_
  refine v_lif_ne (pc := 7) C 7 14 rfl (by decide) (fun c1 => ?_) (fun c1 => ?_)
  · replace h := g_ifF c1 h
    refine v_iconst (pc := 14) C 10 0 rfl (by decide) ?_
    obtain ⟨rfl, rfl⟩ := g_so h
    exact v_zret (pc := 15) C 11 rfl hr (by decide)
  · replace h := g_ifT c1 h
    refine v_iconst (pc := 10) C 8 1 rfl (by decide) ?_
    refine v_goto (pc := 11) C 9 15 rfl (by decide) ?_
    obtain ⟨rfl, rfl⟩ := g_so h
    exact v_zret (pc := 15) C 11 rfl hr (by decide)
theorem c_X8_has {l : Launch} {w : gW} {rr : Int32} {rm : gM} (hJ : gJok w) {F : Nat} {x0 : Int64} {x2 : Int32} {m : gM} (h : f_X8_has w.2.2.2.2.1 F x0 x2 m = some (rr, rm)) : gMet l 0 yX8_has cX8_has 3 (some .boolean) w [.long x0, .int x2] m (some (.int rr)) rm :=
  gMet.of hJ mf_X8_has dk_X8_has (Nat.le_of_ble_eq_true rfl) (fun X _ C hr => tf_X8_has (F := F) C hr h)
def f_X8_says (sh : List gS) (F : Nat) (x0 : Nat) (x1 : Int64) (m : gM) : Option (gM) :=
  g_if (oB sh x0 8) (nm (gsL m x0 65 x1) (fun m2 => nm (gsI m2 x0 64 ((m2.1 x0 64) - (1 : Int32))) (fun m3 => some m3)))
set_option maxRecDepth 100000 in
set_option maxHeartbeats 4000000 in
theorem tf_X8_says {X : gX} {w : gW} {rm : gM} (C : gC X w K_X8_says 3 RX8 0) (hr : X.2.2.2.2.2.2.2.2.1.sig.returnType = none) {F : Nat} {x0 : Nat} {x1 : Int64} {m : gM} (h : f_X8_says w.2.2.2.2.1 F x0 x1 m = some rm) : gV X w 0 0 (gR X w none rm) 3 0 [(0, .ref x0), (1, .long x1)] [] m := by
  unfold f_X8_says at h
  refine v_aload_n (pc := 0) C 0 0 rfl rfl rfl ?_
  refine v_lload_n (pc := 1) C 1 1 rfl rfl rfl ?_
  obtain ⟨o1, h⟩ := g_okk h
  refine v_putL (pc := 2) C 2 rfl lf_ScopeGraphModel_324 (g_oB o1) rfl ?_
  refine v_topM (fun m2 em2 => ?_)
  replace h := g_nm h em2
  refine v_aload_n (pc := 5) C 3 0 rfl rfl rfl ?_
  refine v_dup (pc := 6) C 4 rfl rfl ?_
  refine v_getI (pc := 7) C 5 rfl lf_ScopeGraphModel_321.get (g_oB o1) rfl ?_
  refine v_iconst (pc := 10) C 6 1 rfl (by decide) ?_
  refine v_isub (pc := 11) C 7 rfl ?_
  refine v_putI (pc := 12) C 8 rfl lf_ScopeGraphModel_321 (g_oB o1) rfl ?_
  refine v_topM (fun m3 em3 => ?_)
  replace h := g_nm h em3
  cases g_s1' h
  exact v_vret (pc := 15) C 9 rfl hr
theorem c_X8_says {l : Launch} {w : gW} {rm : gM} (hJ : gJok w) {F : Nat} {x0 : Nat} {x1 : Int64} {m : gM} (h : f_X8_says w.2.2.2.2.1 F x0 x1 m = some rm) : gMet l 0 yX8_says cX8_says 3 none w [.ref x0, .long x1] m none rm :=
  gMet.of hJ mf_X8_says dk_X8_says (Nat.le_of_ble_eq_true rfl) (fun X _ C hr => tf_X8_says (F := F) C hr h)
def b_X8_imports_127 (sh : List gS) (F : Nat) (x0 : Nat) (x1 : Int32) (x2 : Int32) (m : gM) : Option (gM) :=
  g_if (oB sh x0 8) (if x2 = (m.1 x0 20) then ((m.2.2 x0 61).bind (fun t15 => g_if (aB sh t15 .long x1) ((f_X8_says sh F x0 (m.2.1 t15 (x1).toNatClampNeg) m).bind (fun m17 => some m17)))) else ((m.2.2 x0 63).bind (fun t3 => g_if (aB sh t3 .int x1) (nm (gsI m t3 (x1).toNatClampNeg (x2 + (1 : Int32))) (fun m5 => (m5.2.2 x0 55).bind (fun t6 => g_if (aB sh t6 .int x1) (nm (gsI m5 t6 (x1).toNatClampNeg 2) (fun m8 => (m8.2.2 x0 58).bind (fun t9 => g_if (aB sh t9 .long x1) ((m8.2.2 x0 59).bind (fun t11 => g_if (aB sh t11 .long x1) ((f_X8_askMeans sh F x0 x2 (m8.2.1 t9 (x1).toNatClampNeg) (m8.2.1 t11 (x1).toNatClampNeg) m8).bind (fun m13 => some m13)))))))))))))
set_option maxRecDepth 100000 in
set_option maxHeartbeats 4000000 in
theorem tb_X8_imports_127 {X : gX} {w : gW} {rm : gM} (C : gC X w K_X8_imports 4 RX8 2) (hr : X.2.2.2.2.2.2.2.2.1.sig.returnType = none) {F : Nat} {x0 : Nat} {x1 : Int32} {x2 : Int32} {m : gM} (h : b_X8_imports_127 w.2.2.2.2.1 F x0 x1 x2 m = some rm) : gV X w 0 0 (gR X w none rm) 4 127 [(0, .ref x0), (1, .int x1), (2, .int x2)] [] m := by
  unfold b_X8_imports_127 at h
  refine v_iload_n (pc := 127) C 56 2 rfl rfl rfl ?_
  refine v_aload_n (pc := 128) C 57 0 rfl rfl rfl ?_
  obtain ⟨o1, h⟩ := g_okk h
  refine v_getI (pc := 129) C 58 rfl lf_ScopeGraphModel_223.get (g_oB o1) rfl ?_
  refine v_icmp_ne (pc := 132) C 59 146 rfl (by decide) (fun c2 => ?_) (fun c2 => ?_)
  · replace h := g_ifF c2 h
    refine v_aload_n (pc := 146) C 67 0 rfl rfl rfl ?_
    obtain ⟨t3, qt3, h⟩ := g_bd h
    refine v_getR (pc := 147) C 68 rfl lf_ScopeGraphModel_135 (g_oB o1) rfl qt3 ?_
    refine v_iload_n (pc := 150) C 69 1 rfl rfl rfl ?_
    refine v_iload_n (pc := 151) C 70 2 rfl rfl rfl ?_
    refine v_iconst (pc := 152) C 71 1 rfl (by decide) ?_
    refine v_iadd (pc := 153) C 72 rfl ?_
    obtain ⟨b4, h⟩ := g_okk h
    refine v_iast' (pc := 154) C 73 rfl b4 ?_
    refine v_topM (fun m5 em5 => ?_)
    replace h := g_nm h em5
    refine v_aload_n (pc := 155) C 74 0 rfl rfl rfl ?_
    obtain ⟨t6, qt6, h⟩ := g_bd h
    refine v_getR (pc := 156) C 75 rfl lf_ScopeGraphModel_110 (g_oB o1) rfl qt6 ?_
    refine v_iload_n (pc := 159) C 76 1 rfl rfl rfl ?_
    refine v_iconst (pc := 160) C 77 2 rfl (by decide) ?_
    obtain ⟨b7, h⟩ := g_okk h
    refine v_iast' (pc := 161) C 78 rfl b7 ?_
    refine v_topM (fun m8 em8 => ?_)
    replace h := g_nm h em8
    refine v_aload_n (pc := 162) C 79 0 rfl rfl rfl ?_
    refine v_iload_n (pc := 163) C 80 2 rfl rfl rfl ?_
    refine v_aload_n (pc := 164) C 81 0 rfl rfl rfl ?_
    obtain ⟨t9, qt9, h⟩ := g_bd h
    refine v_getR (pc := 165) C 82 rfl lf_ScopeGraphModel_119 (g_oB o1) rfl qt9 ?_
    refine v_iload_n (pc := 168) C 83 1 rfl rfl rfl ?_
    obtain ⟨b10, h⟩ := g_okk h
    refine v_lald' (pc := 169) C 84 rfl b10 ?_
    refine v_aload_n (pc := 170) C 85 0 rfl rfl rfl ?_
    obtain ⟨t11, qt11, h⟩ := g_bd h
    refine v_getR (pc := 171) C 86 rfl lf_ScopeGraphModel_123 (g_oB o1) rfl qt11 ?_
    refine v_iload_n (pc := 174) C 87 1 rfl rfl rfl ?_
    obtain ⟨b12, h⟩ := g_okk h
    refine v_lald' (pc := 175) C 88 rfl b12 ?_
    obtain ⟨m13, qm13, h⟩ := g_bd h
    refine v_callV (pc := 176) C 89 rfl mf_X8_askMeans clX8 rfl im_X8_askMeans lm_ScopeGraphModel_334 (c_X8_askMeans C.2.2.2.2.2.2.2.2.2.2.2 qm13) (by decide) rfl (g_oB o1) (Nat.le_of_ble_eq_true rfl) ⟨Nat.zero_le _, Nat.zero_le _⟩ rfl ?_
    change gV X w 0 0 (gR X w none rm) 4 179 [(0, .ref x0), (1, .int x1), (2, .int x2)] [] m13
    refine v_goto (pc := 179) C 90 348 rfl (by decide) ?_
    cases g_s1' h
    exact v_vret (pc := 348) C 195 rfl hr
  · replace h := g_ifT c2 h
    refine v_aload_n (pc := 135) C 60 0 rfl rfl rfl ?_
    refine v_aload_n (pc := 136) C 61 0 rfl rfl rfl ?_
    obtain ⟨t15, qt15, h⟩ := g_bd h
    refine v_getR (pc := 137) C 62 rfl lf_ScopeGraphModel_129 (g_oB o1) rfl qt15 ?_
    refine v_iload_n (pc := 140) C 63 1 rfl rfl rfl ?_
    obtain ⟨b16, h⟩ := g_okk h
    refine v_lald' (pc := 141) C 64 rfl b16 ?_
    obtain ⟨m17, qm17, h⟩ := g_bd h
    refine v_callV (pc := 142) C 65 rfl mf_X8_says clX8 rfl im_X8_says lm_ScopeGraphModel_359 (c_X8_says C.2.2.2.2.2.2.2.2.2.2.2 qm17) (by decide) rfl (g_oB o1) (Nat.le_of_ble_eq_true rfl) ⟨Nat.zero_le _, Nat.zero_le _⟩ rfl ?_
    change gV X w 0 0 (gR X w none rm) 4 145 [(0, .ref x0), (1, .int x1), (2, .int x2)] [] m17
    cases g_s1' h
    exact v_vret (pc := 145) C 66 rfl hr
def b_X8_imports_121 (sh : List gS) (F : Nat) (k60 : Nat → Int32 → Int32 → gM → Option (gM)) (x0 : Nat) (x1 : Int32) (x2 : Int32) (m : gM) : Option (gM) :=
  nm (x2 + Int32.ofInt 1) (fun v1 => k60 x0 x1 v1 m)
set_option maxRecDepth 100000 in
set_option maxHeartbeats 4000000 in
theorem tb_X8_imports_121 {X : gX} {w : gW} {rm : gM} (C : gC X w K_X8_imports 4 RX8 2) (hr : X.2.2.2.2.2.2.2.2.1.sig.returnType = none) {F : Nat} {k60 : Nat → Int32 → Int32 → gM → Option (gM)} (hk60 : ∀ (z0 : Nat) (z1 : Int32) (z2 : Int32) (m : gM), k60 z0 z1 z2 m = some rm → gV X w 0 0 (gR X w none rm) 4 60 [(0, .ref z0), (1, .int z1), (2, .int z2)] [] m) {x0 : Nat} {x1 : Int32} {x2 : Int32} {m : gM} (h : b_X8_imports_121 w.2.2.2.2.1 F k60 x0 x1 x2 m = some rm) : gV X w 0 0 (gR X w none rm) 4 121 [(0, .ref x0), (1, .int x1), (2, .int x2)] [] m := by
  unfold b_X8_imports_121 at h
  refine v_iincN (pc := 121) C 54 2 (fun v1 => [(2, .int v1), (0, .ref x0), (1, .int x1)]) rfl rfl (by decide) (fun _ => rfl) (fun v1 ev1 => ?_)
  replace h := g_nm h ev1
  refine v_goto (pc := 124) C 55 60 rfl (by decide) ?_
  refine v_sub [(0, .ref x0), (1, .int x1), (2, .int v1)] [1, 2, 0] rfl ?_
  exact hk60 _ _ _ _ h
def b_X8_imports_60 (sh : List gS) (F : Nat) (k60 : Nat → Int32 → Int32 → gM → Option (gM)) (x0 : Nat) (x1 : Int32) (x2 : Int32) (m : gM) : Option (gM) :=
  g_if (oB sh x0 8) (if (m.1 x0 20) ≤ x2 then (b_X8_imports_127 sh F x0 x1 x2 m) else ((m.2.2 x0 19).bind (fun t3 => g_if (aB sh t3 .int x2) ((m.2.2 x0 56).bind (fun t5 => g_if (aB sh t5 .int x1) (if (m.1 t3 (x2).toNatClampNeg) = (m.1 t5 (x1).toNatClampNeg) then (if (50 : Int32) ≤ x2 then ((m.2.2 x0 59).bind (fun t9 => g_if (aB sh t9 .long x1) ((f_X8_has sh F (m.2.1 t9 (x1).toNatClampNeg) (x2 - (50 : Int32)) m).bind (fun q13 => nm q13.1 (fun r12 => nm q13.2 (fun m11 => if r12 = 0 then (b_X8_imports_127 sh F x0 x1 x2 m11) else (b_X8_imports_121 sh F k60 x0 x1 x2 m11))))))) else ((m.2.2 x0 58).bind (fun t15 => g_if (aB sh t15 .long x1) ((f_X8_has sh F (m.2.1 t15 (x1).toNatClampNeg) x2 m).bind (fun q19 => nm q19.1 (fun r18 => nm q19.2 (fun m17 => if r18 = 0 then (b_X8_imports_127 sh F x0 x1 x2 m17) else (b_X8_imports_121 sh F k60 x0 x1 x2 m17)))))))) else (b_X8_imports_121 sh F k60 x0 x1 x2 m)))))))
set_option maxRecDepth 100000 in
set_option maxHeartbeats 4000000 in
theorem tb_X8_imports_60 {X : gX} {w : gW} {rm : gM} (C : gC X w K_X8_imports 4 RX8 2) (hr : X.2.2.2.2.2.2.2.2.1.sig.returnType = none) {F : Nat} {k60 : Nat → Int32 → Int32 → gM → Option (gM)} (hk60 : ∀ (z0 : Nat) (z1 : Int32) (z2 : Int32) (m : gM), k60 z0 z1 z2 m = some rm → gV X w 0 0 (gR X w none rm) 4 60 [(0, .ref z0), (1, .int z1), (2, .int z2)] [] m) {x0 : Nat} {x1 : Int32} {x2 : Int32} {m : gM} (h : b_X8_imports_60 w.2.2.2.2.1 F k60 x0 x1 x2 m = some rm) : gV X w 0 0 (gR X w none rm) 4 60 [(0, .ref x0), (1, .int x1), (2, .int x2)] [] m := by
  unfold b_X8_imports_60 at h
  refine v_iload_n (pc := 60) C 21 2 rfl rfl rfl ?_
  refine v_aload_n (pc := 61) C 22 0 rfl rfl rfl ?_
  obtain ⟨o1, h⟩ := g_okk h
  refine v_getI (pc := 62) C 23 rfl lf_ScopeGraphModel_223.get (g_oB o1) rfl ?_
  refine v_icmp_ge (pc := 65) C 24 127 rfl (by decide) (fun c2 => ?_) (fun c2 => ?_)
  · replace h := g_ifT c2 h
    refine v_sub [(0, .ref x0), (1, .int x1), (2, .int x2)] [0, 1, 2] rfl ?_
    exact tb_X8_imports_127 (F := F) C hr h
  · replace h := g_ifF c2 h
    refine v_aload_n (pc := 68) C 25 0 rfl rfl rfl ?_
    obtain ⟨t3, qt3, h⟩ := g_bd h
    refine v_getR (pc := 69) C 26 rfl lf_ScopeGraphModel_50 (g_oB o1) rfl qt3 ?_
    refine v_iload_n (pc := 72) C 27 2 rfl rfl rfl ?_
    obtain ⟨b4, h⟩ := g_okk h
    refine v_iald' (pc := 73) C 28 rfl b4 ?_
    refine v_aload_n (pc := 74) C 29 0 rfl rfl rfl ?_
    obtain ⟨t5, qt5, h⟩ := g_bd h
    refine v_getR (pc := 75) C 30 rfl lf_ScopeGraphModel_113 (g_oB o1) rfl qt5 ?_
    refine v_iload_n (pc := 78) C 31 1 rfl rfl rfl ?_
    obtain ⟨b6, h⟩ := g_okk h
    refine v_iald' (pc := 79) C 32 rfl b6 ?_
    refine v_icmp_ne (pc := 80) C 33 121 rfl (by decide) (fun c7 => ?_) (fun c7 => ?_)
    · replace h := g_ifF c7 h
      refine v_sub [(0, .ref x0), (1, .int x1), (2, .int x2)] [0, 1, 2] rfl ?_
      exact tb_X8_imports_121 (F := F) C hr hk60 h
    · replace h := g_ifT c7 h
      refine v_iload_n (pc := 83) C 34 2 rfl rfl rfl ?_
      refine v_bipush (pc := 84) C 35 50 rfl (by decide) ?_
      refine v_icmp_ge (pc := 86) C 36 105 rfl (by decide) (fun c8 => ?_) (fun c8 => ?_)
      · replace h := g_ifT c8 h
        refine v_aload_n (pc := 105) C 45 0 rfl rfl rfl ?_
        obtain ⟨t9, qt9, h⟩ := g_bd h
        refine v_getR (pc := 106) C 46 rfl lf_ScopeGraphModel_123 (g_oB o1) rfl qt9 ?_
        refine v_iload_n (pc := 109) C 47 1 rfl rfl rfl ?_
        obtain ⟨b10, h⟩ := g_okk h
        refine v_lald' (pc := 110) C 48 rfl b10 ?_
        refine v_iload_n (pc := 111) C 49 2 rfl rfl rfl ?_
        refine v_bipush (pc := 112) C 50 50 rfl (by decide) ?_
        refine v_isub (pc := 114) C 51 rfl ?_
        obtain ⟨⟨r12, m11⟩, qm11, h⟩ := g_bd h
        replace h := g_nm (y := m11) (g_nm (y := r12) h rfl) rfl
        refine v_callS (pc := 115) C 52 rfl mf_X8_has sm_X8_has lm_ScopeGraphModel_351 (c_X8_has C.2.2.2.2.2.2.2.2.2.2.2 qm11) (by decide) rfl (Nat.le_of_ble_eq_true rfl) ⟨Nat.zero_le _, Nat.zero_le _⟩ rfl ?_
        change gV X w 0 0 (gR X w none rm) 4 118 [(0, .ref x0), (1, .int x1), (2, .int x2)] [.int r12] m11
        refine v_if_eq (pc := 118) C 53 127 rfl (by decide) (fun c14 => ?_) (fun c14 => ?_)
        · replace h := g_ifT c14 h
          refine v_sub [(0, .ref x0), (1, .int x1), (2, .int x2)] [0, 1, 2] rfl ?_
          exact tb_X8_imports_127 (F := F) C hr h
        · replace h := g_ifF c14 h
          refine v_sub [(0, .ref x0), (1, .int x1), (2, .int x2)] [0, 1, 2] rfl ?_
          exact tb_X8_imports_121 (F := F) C hr hk60 h
      · replace h := g_ifF c8 h
        refine v_aload_n (pc := 89) C 37 0 rfl rfl rfl ?_
        obtain ⟨t15, qt15, h⟩ := g_bd h
        refine v_getR (pc := 90) C 38 rfl lf_ScopeGraphModel_119 (g_oB o1) rfl qt15 ?_
        refine v_iload_n (pc := 93) C 39 1 rfl rfl rfl ?_
        obtain ⟨b16, h⟩ := g_okk h
        refine v_lald' (pc := 94) C 40 rfl b16 ?_
        refine v_iload_n (pc := 95) C 41 2 rfl rfl rfl ?_
        obtain ⟨⟨r18, m17⟩, qm17, h⟩ := g_bd h
        replace h := g_nm (y := m17) (g_nm (y := r18) h rfl) rfl
        refine v_callS (pc := 96) C 42 rfl mf_X8_has sm_X8_has lm_ScopeGraphModel_351 (c_X8_has C.2.2.2.2.2.2.2.2.2.2.2 qm17) (by decide) rfl (Nat.le_of_ble_eq_true rfl) ⟨Nat.zero_le _, Nat.zero_le _⟩ rfl ?_
        change gV X w 0 0 (gR X w none rm) 4 99 [(0, .ref x0), (1, .int x1), (2, .int x2)] [.int r18] m17
        refine v_if_eq (pc := 99) C 43 127 rfl (by decide) (fun c20 => ?_) (fun c20 => ?_)
        · replace h := g_ifT c20 h
          refine v_sub [(0, .ref x0), (1, .int x1), (2, .int x2)] [0, 1, 2] rfl ?_
          exact tb_X8_imports_127 (F := F) C hr h
        · replace h := g_ifF c20 h
          refine v_goto (pc := 102) C 44 121 rfl (by decide) ?_
          refine v_sub [(0, .ref x0), (1, .int x1), (2, .int x2)] [0, 1, 2] rfl ?_
          exact tb_X8_imports_121 (F := F) C hr hk60 h
def l_X8_imports_60 (sh : List gS) (F : Nat) : Nat → Nat → Int32 → Int32 → gM → Option (gM)
  | 0 => fun _ _ _ _ => none
  | n + 1 => fun x0 x1 x2 m => b_X8_imports_60 sh F (l_X8_imports_60 sh F n) x0 x1 x2 m
theorem tl_X8_imports_60 {X : gX} {w : gW} {rm : gM} (C : gC X w K_X8_imports 4 RX8 2) (hr : X.2.2.2.2.2.2.2.2.1.sig.returnType = none) {F : Nat} : ∀ (n : Nat) (x0 : Nat) (x1 : Int32) (x2 : Int32) (m : gM), l_X8_imports_60 w.2.2.2.2.1 F n x0 x1 x2 m = some rm → gV X w 0 0 (gR X w none rm) 4 60 [(0, .ref x0), (1, .int x1), (2, .int x2)] [] m := by
  intro n
  induction n with
  | zero => intro x0 x1 x2 m h; cases h
  | succ n ih => intro x0 x1 x2 m h; exact tb_X8_imports_60 (F := F) C hr ih h
def b_X8_imports_240 (sh : List gS) (F : Nat) (x0 : Nat) (x1 : Int32) (x3 : Int32) (m : gM) : Option (gM) :=
  g_if (oB sh x0 8) (if x3 = (m.1 x0 15) then ((m.2.2 x0 55).bind (fun t24 => g_if (aB sh t24 .int x1) (nm (gsI m t24 (x1).toNatClampNeg 1) (fun m26 => some m26)))) else ((m.2.2 x0 62).bind (fun t3 => g_if (aB sh t3 .long x1) (g_if (aB sh t3 .long x1) (nm (gsL m t3 (x1).toNatClampNeg ((m.2.1 t3 (x1).toNatClampNeg) &&& (((1 : Int64) <<< (x3.toInt64 &&& 63)) ^^^ (-1)))) (fun m6 => (m6.2.2 x0 55).bind (fun t7 => g_if (aB sh t7 .int x1) (nm (gsI m6 t7 (x1).toNatClampNeg 4) (fun m9 => (m9.2.2 x0 14).bind (fun t10 => g_if (aB sh t10 .int x3) ((m9.2.2 x0 57).bind (fun t12 => g_if (aB sh t12 .int x1) ((m9.2.2 x0 58).bind (fun t14 => g_if (aB sh t14 .long x1) ((m9.2.2 x0 59).bind (fun t16 => g_if (aB sh t16 .long x1) ((m9.2.2 x0 60).bind (fun t18 => g_if (aB sh t18 .long x1) ((m9.2.2 x0 56).bind (fun t20 => g_if (aB sh t20 .int x1) ((f_X8_ask sh F x0 2 (m9.1 t10 (x3).toNatClampNeg) (m9.1 t12 (x1).toNatClampNeg) (m9.2.1 t14 (x1).toNatClampNeg) (m9.2.1 t16 (x1).toNatClampNeg) ((m9.2.1 t18 (x1).toNatClampNeg) ||| ((1 : Int64) <<< ((m9.1 t20 (x1).toNatClampNeg).toInt64 &&& 63))) m9).bind (fun m22 => some m22))))))))))))))))))))))
set_option maxRecDepth 100000 in
set_option maxHeartbeats 4000000 in
theorem tb_X8_imports_240 {X : gX} {w : gW} {rm : gM} (C : gC X w K_X8_imports 4 RX8 2) (hr : X.2.2.2.2.2.2.2.2.1.sig.returnType = none) {F : Nat} {x0 : Nat} {x1 : Int32} {x3 : Int32} {m : gM} (h : b_X8_imports_240 w.2.2.2.2.1 F x0 x1 x3 m = some rm) : gV X w 0 0 (gR X w none rm) 4 240 [(0, .ref x0), (1, .int x1), (3, .int x3)] [] m := by
  unfold b_X8_imports_240 at h
  refine v_iload_n (pc := 240) C 123 2 rfl rfl rfl ?_
  refine v_aload_n (pc := 241) C 124 0 rfl rfl rfl ?_
  obtain ⟨o1, h⟩ := g_okk h
  refine v_getI (pc := 242) C 125 rfl lf_ScopeGraphModel_211.get (g_oB o1) rfl ?_
  refine v_icmp_ne (pc := 245) C 126 258 rfl (by decide) (fun c2 => ?_) (fun c2 => ?_)
  · replace h := g_ifF c2 h
    refine v_aload_n (pc := 258) C 133 0 rfl rfl rfl ?_
    obtain ⟨t3, qt3, h⟩ := g_bd h
    refine v_getR (pc := 259) C 134 rfl lf_ScopeGraphModel_132 (g_oB o1) rfl qt3 ?_
    refine v_iload_n (pc := 262) C 135 1 rfl rfl rfl ?_
    refine v_dup2 (pc := 263) C 136 rfl rfl rfl ?_
    obtain ⟨b4, h⟩ := g_okk h
    refine v_lald' (pc := 264) C 137 rfl b4 ?_
    refine v_lconst (pc := 265) C 138 1 rfl (by decide) ?_
    refine v_iload_n (pc := 266) C 139 2 rfl rfl rfl ?_
    refine v_lshl (pc := 267) C 140 rfl ?_
    refine v_ldc2 (pc := 268) C 141 (v := -1) rfl (g_tb 1375 (by decide +kernel) rfl) ?_
    refine v_lxor (pc := 271) C 142 rfl ?_
    refine v_land (pc := 272) C 143 rfl ?_
    obtain ⟨b5, h⟩ := g_okk h
    refine v_last' (pc := 273) C 144 rfl b5 ?_
    refine v_topM (fun m6 em6 => ?_)
    replace h := g_nm h em6
    refine v_aload_n (pc := 274) C 145 0 rfl rfl rfl ?_
    obtain ⟨t7, qt7, h⟩ := g_bd h
    refine v_getR (pc := 275) C 146 rfl lf_ScopeGraphModel_110 (g_oB o1) rfl qt7 ?_
    refine v_iload_n (pc := 278) C 147 1 rfl rfl rfl ?_
    refine v_iconst (pc := 279) C 148 4 rfl (by decide) ?_
    obtain ⟨b8, h⟩ := g_okk h
    refine v_iast' (pc := 280) C 149 rfl b8 ?_
    refine v_topM (fun m9 em9 => ?_)
    replace h := g_nm h em9
    refine v_aload_n (pc := 281) C 150 0 rfl rfl rfl ?_
    refine v_iconst (pc := 282) C 151 2 rfl (by decide) ?_
    refine v_aload_n (pc := 283) C 152 0 rfl rfl rfl ?_
    obtain ⟨t10, qt10, h⟩ := g_bd h
    refine v_getR (pc := 284) C 153 rfl lf_ScopeGraphModel_38 (g_oB o1) rfl qt10 ?_
    refine v_iload_n (pc := 287) C 154 2 rfl rfl rfl ?_
    obtain ⟨b11, h⟩ := g_okk h
    refine v_iald' (pc := 288) C 155 rfl b11 ?_
    refine v_aload_n (pc := 289) C 156 0 rfl rfl rfl ?_
    obtain ⟨t12, qt12, h⟩ := g_bd h
    refine v_getR (pc := 290) C 157 rfl lf_ScopeGraphModel_116 (g_oB o1) rfl qt12 ?_
    refine v_iload_n (pc := 293) C 158 1 rfl rfl rfl ?_
    obtain ⟨b13, h⟩ := g_okk h
    refine v_iald' (pc := 294) C 159 rfl b13 ?_
    refine v_aload_n (pc := 295) C 160 0 rfl rfl rfl ?_
    obtain ⟨t14, qt14, h⟩ := g_bd h
    refine v_getR (pc := 296) C 161 rfl lf_ScopeGraphModel_119 (g_oB o1) rfl qt14 ?_
    refine v_iload_n (pc := 299) C 162 1 rfl rfl rfl ?_
    obtain ⟨b15, h⟩ := g_okk h
    refine v_lald' (pc := 300) C 163 rfl b15 ?_
    refine v_aload_n (pc := 301) C 164 0 rfl rfl rfl ?_
    obtain ⟨t16, qt16, h⟩ := g_bd h
    refine v_getR (pc := 302) C 165 rfl lf_ScopeGraphModel_123 (g_oB o1) rfl qt16 ?_
    refine v_iload_n (pc := 305) C 166 1 rfl rfl rfl ?_
    obtain ⟨b17, h⟩ := g_okk h
    refine v_lald' (pc := 306) C 167 rfl b17 ?_
    refine v_aload_n (pc := 307) C 168 0 rfl rfl rfl ?_
    obtain ⟨t18, qt18, h⟩ := g_bd h
    refine v_getR (pc := 308) C 169 rfl lf_ScopeGraphModel_126 (g_oB o1) rfl qt18 ?_
    refine v_iload_n (pc := 311) C 170 1 rfl rfl rfl ?_
    obtain ⟨b19, h⟩ := g_okk h
    refine v_lald' (pc := 312) C 171 rfl b19 ?_
    refine v_lconst (pc := 313) C 172 1 rfl (by decide) ?_
    refine v_aload_n (pc := 314) C 173 0 rfl rfl rfl ?_
    obtain ⟨t20, qt20, h⟩ := g_bd h
    refine v_getR (pc := 315) C 174 rfl lf_ScopeGraphModel_113 (g_oB o1) rfl qt20 ?_
    refine v_iload_n (pc := 318) C 175 1 rfl rfl rfl ?_
    obtain ⟨b21, h⟩ := g_okk h
    refine v_iald' (pc := 319) C 176 rfl b21 ?_
    refine v_lshl (pc := 320) C 177 rfl ?_
    refine v_lor (pc := 321) C 178 rfl ?_
    obtain ⟨m22, qm22, h⟩ := g_bd h
    refine v_callV (pc := 322) C 179 rfl mf_X8_ask clX8 rfl im_X8_ask lm_ScopeGraphModel_347 (c_X8_ask C.2.2.2.2.2.2.2.2.2.2.2 qm22) (by decide) rfl (g_oB o1) (Nat.le_of_ble_eq_true rfl) ⟨Nat.zero_le _, Nat.zero_le _⟩ rfl ?_
    change gV X w 0 0 (gR X w none rm) 4 325 [(0, .ref x0), (1, .int x1), (3, .int x3)] [] m22
    refine v_goto (pc := 325) C 180 348 rfl (by decide) ?_
    cases g_s1' h
    exact v_vret (pc := 348) C 195 rfl hr
  · replace h := g_ifT c2 h
    refine v_aload_n (pc := 248) C 127 0 rfl rfl rfl ?_
    obtain ⟨t24, qt24, h⟩ := g_bd h
    refine v_getR (pc := 249) C 128 rfl lf_ScopeGraphModel_110 (g_oB o1) rfl qt24 ?_
    refine v_iload_n (pc := 252) C 129 1 rfl rfl rfl ?_
    refine v_iconst (pc := 253) C 130 1 rfl (by decide) ?_
    obtain ⟨b25, h⟩ := g_okk h
    refine v_iast' (pc := 254) C 131 rfl b25 ?_
    refine v_topM (fun m26 em26 => ?_)
    replace h := g_nm h em26
    refine v_goto (pc := 255) C 132 348 rfl (by decide) ?_
    cases g_s1' h
    exact v_vret (pc := 348) C 195 rfl hr
def b_X8_imports_234 (sh : List gS) (F : Nat) (k204 : Nat → Int32 → Int32 → gM → Option (gM)) (x0 : Nat) (x1 : Int32) (x3 : Int32) (m : gM) : Option (gM) :=
  nm (x3 + Int32.ofInt 1) (fun v1 => k204 x0 x1 v1 m)
set_option maxRecDepth 100000 in
set_option maxHeartbeats 4000000 in
theorem tb_X8_imports_234 {X : gX} {w : gW} {rm : gM} (C : gC X w K_X8_imports 4 RX8 2) (hr : X.2.2.2.2.2.2.2.2.1.sig.returnType = none) {F : Nat} {k204 : Nat → Int32 → Int32 → gM → Option (gM)} (hk204 : ∀ (z0 : Nat) (z1 : Int32) (z3 : Int32) (m : gM), k204 z0 z1 z3 m = some rm → gV X w 0 0 (gR X w none rm) 4 204 [(0, .ref z0), (1, .int z1), (3, .int z3)] [] m) {x0 : Nat} {x1 : Int32} {x3 : Int32} {m : gM} (h : b_X8_imports_234 w.2.2.2.2.1 F k204 x0 x1 x3 m = some rm) : gV X w 0 0 (gR X w none rm) 4 234 [(0, .ref x0), (1, .int x1), (3, .int x3)] [] m := by
  unfold b_X8_imports_234 at h
  refine v_iincN (pc := 234) C 121 2 (fun v1 => [(3, .int v1), (0, .ref x0), (1, .int x1)]) rfl rfl (by decide) (fun _ => rfl) (fun v1 ev1 => ?_)
  replace h := g_nm h ev1
  refine v_goto (pc := 237) C 122 204 rfl (by decide) ?_
  refine v_sub [(0, .ref x0), (1, .int x1), (3, .int v1)] [1, 2, 0] rfl ?_
  exact hk204 _ _ _ _ h
def b_X8_imports_204 (sh : List gS) (F : Nat) (k204 : Nat → Int32 → Int32 → gM → Option (gM)) (x0 : Nat) (x1 : Int32) (x3 : Int32) (m : gM) : Option (gM) :=
  g_if (oB sh x0 8) (if (m.1 x0 15) ≤ x3 then (b_X8_imports_240 sh F x0 x1 x3 m) else ((m.2.2 x0 62).bind (fun t3 => g_if (aB sh t3 .long x1) ((f_X8_has sh F (m.2.1 t3 (x1).toNatClampNeg) x3 m).bind (fun q7 => nm q7.1 (fun r6 => nm q7.2 (fun m5 => if r6 = 0 then (b_X8_imports_234 sh F k204 x0 x1 x3 m5) else ((m5.2.2 x0 14).bind (fun t9 => g_if (aB sh t9 .int x3) (if 0 ≤ (m5.1 t9 (x3).toNatClampNeg) then (b_X8_imports_240 sh F x0 x1 x3 m5) else (b_X8_imports_234 sh F k204 x0 x1 x3 m5)))))))))))
set_option maxRecDepth 100000 in
set_option maxHeartbeats 4000000 in
theorem tb_X8_imports_204 {X : gX} {w : gW} {rm : gM} (C : gC X w K_X8_imports 4 RX8 2) (hr : X.2.2.2.2.2.2.2.2.1.sig.returnType = none) {F : Nat} {k204 : Nat → Int32 → Int32 → gM → Option (gM)} (hk204 : ∀ (z0 : Nat) (z1 : Int32) (z3 : Int32) (m : gM), k204 z0 z1 z3 m = some rm → gV X w 0 0 (gR X w none rm) 4 204 [(0, .ref z0), (1, .int z1), (3, .int z3)] [] m) {x0 : Nat} {x1 : Int32} {x3 : Int32} {m : gM} (h : b_X8_imports_204 w.2.2.2.2.1 F k204 x0 x1 x3 m = some rm) : gV X w 0 0 (gR X w none rm) 4 204 [(0, .ref x0), (1, .int x1), (3, .int x3)] [] m := by
  unfold b_X8_imports_204 at h
  refine v_iload_n (pc := 204) C 105 2 rfl rfl rfl ?_
  refine v_aload_n (pc := 205) C 106 0 rfl rfl rfl ?_
  obtain ⟨o1, h⟩ := g_okk h
  refine v_getI (pc := 206) C 107 rfl lf_ScopeGraphModel_211.get (g_oB o1) rfl ?_
  refine v_icmp_ge (pc := 209) C 108 240 rfl (by decide) (fun c2 => ?_) (fun c2 => ?_)
  · replace h := g_ifT c2 h
    refine v_sub [(0, .ref x0), (1, .int x1), (3, .int x3)] [0, 1, 2] rfl ?_
    exact tb_X8_imports_240 (F := F) C hr h
  · replace h := g_ifF c2 h
    refine v_aload_n (pc := 212) C 109 0 rfl rfl rfl ?_
    obtain ⟨t3, qt3, h⟩ := g_bd h
    refine v_getR (pc := 213) C 110 rfl lf_ScopeGraphModel_132 (g_oB o1) rfl qt3 ?_
    refine v_iload_n (pc := 216) C 111 1 rfl rfl rfl ?_
    obtain ⟨b4, h⟩ := g_okk h
    refine v_lald' (pc := 217) C 112 rfl b4 ?_
    refine v_iload_n (pc := 218) C 113 2 rfl rfl rfl ?_
    obtain ⟨⟨r6, m5⟩, qm5, h⟩ := g_bd h
    replace h := g_nm (y := m5) (g_nm (y := r6) h rfl) rfl
    refine v_callS (pc := 219) C 114 rfl mf_X8_has sm_X8_has lm_ScopeGraphModel_351 (c_X8_has C.2.2.2.2.2.2.2.2.2.2.2 qm5) (by decide) rfl (Nat.le_of_ble_eq_true rfl) ⟨Nat.zero_le _, Nat.zero_le _⟩ rfl ?_
    change gV X w 0 0 (gR X w none rm) 4 222 [(0, .ref x0), (1, .int x1), (3, .int x3)] [.int r6] m5
    refine v_if_eq (pc := 222) C 115 234 rfl (by decide) (fun c8 => ?_) (fun c8 => ?_)
    · replace h := g_ifT c8 h
      refine v_sub [(0, .ref x0), (1, .int x1), (3, .int x3)] [0, 1, 2] rfl ?_
      exact tb_X8_imports_234 (F := F) C hr hk204 h
    · replace h := g_ifF c8 h
      refine v_aload_n (pc := 225) C 116 0 rfl rfl rfl ?_
      obtain ⟨t9, qt9, h⟩ := g_bd h
      refine v_getR (pc := 226) C 117 rfl lf_ScopeGraphModel_38 (g_oB o1) rfl qt9 ?_
      refine v_iload_n (pc := 229) C 118 2 rfl rfl rfl ?_
      obtain ⟨b10, h⟩ := g_okk h
      refine v_iald' (pc := 230) C 119 rfl b10 ?_
      refine v_if_ge (pc := 231) C 120 240 rfl (by decide) (fun c11 => ?_) (fun c11 => ?_)
      · replace h := g_ifT c11 h
        refine v_sub [(0, .ref x0), (1, .int x1), (3, .int x3)] [0, 1, 2] rfl ?_
        exact tb_X8_imports_240 (F := F) C hr h
      · replace h := g_ifF c11 h
        refine v_sub [(0, .ref x0), (1, .int x1), (3, .int x3)] [0, 1, 2] rfl ?_
        exact tb_X8_imports_234 (F := F) C hr hk204 h
def l_X8_imports_204 (sh : List gS) (F : Nat) : Nat → Nat → Int32 → Int32 → gM → Option (gM)
  | 0 => fun _ _ _ _ => none
  | n + 1 => fun x0 x1 x3 m => b_X8_imports_204 sh F (l_X8_imports_204 sh F n) x0 x1 x3 m
theorem tl_X8_imports_204 {X : gX} {w : gW} {rm : gM} (C : gC X w K_X8_imports 4 RX8 2) (hr : X.2.2.2.2.2.2.2.2.1.sig.returnType = none) {F : Nat} : ∀ (n : Nat) (x0 : Nat) (x1 : Int32) (x3 : Int32) (m : gM), l_X8_imports_204 w.2.2.2.2.1 F n x0 x1 x3 m = some rm → gV X w 0 0 (gR X w none rm) 4 204 [(0, .ref x0), (1, .int x1), (3, .int x3)] [] m := by
  intro n
  induction n with
  | zero => intro x0 x1 x3 m h; cases h
  | succ n ih => intro x0 x1 x3 m h; exact tb_X8_imports_204 (F := F) C hr ih h
def f_X8_imports (sh : List gS) (F : Nat) (x0 : Nat) (x1 : Int32) (m : gM) : Option (gM) :=
  g_if (oB sh x0 8) ((m.2.2 x0 55).bind (fun t2 => g_if (aB sh t2 .int x1) (if (m.1 t2 (x1).toNatClampNeg) = 0 then ((m.2.2 x0 63).bind (fun t5 => g_if (aB sh t5 .int x1) (nm (gsI m t5 (x1).toNatClampNeg 0) (fun m7 => (m7.2.2 x0 55).bind (fun t8 => g_if (aB sh t8 .int x1) (nm (gsI m7 t8 (x1).toNatClampNeg 1) (fun m10 => some m10))))))) else (if (m.1 t2 (x1).toNatClampNeg) = 1 then ((m.2.2 x0 63).bind (fun t12 => g_if (aB sh t12 .int x1) (nm (m.1 t12 (x1).toNatClampNeg) (fun v14 => l_X8_imports_60 sh F F x0 x1 v14 m)))) else (if (m.1 t2 (x1).toNatClampNeg) = 2 then ((m.2.2 x0 62).bind (fun t16 => g_if (aB sh t16 .long x1) (nm (gsL m t16 (x1).toNatClampNeg (m.2.1 x0 65)) (fun m18 => (m18.2.2 x0 55).bind (fun t19 => g_if (aB sh t19 .int x1) (nm (gsI m18 t19 (x1).toNatClampNeg 3) (fun m21 => some m21))))))) else (if (m.1 t2 (x1).toNatClampNeg) = 3 then (l_X8_imports_204 sh F F x0 x1 0 m) else ((m.2.2 x0 61).bind (fun t23 => g_if (aB sh t23 .long x1) (g_if (aB sh t23 .long x1) (nm (gsL m t23 (x1).toNatClampNeg ((m.2.1 t23 (x1).toNatClampNeg) ||| (m.2.1 x0 65))) (fun m26 => (m26.2.2 x0 55).bind (fun t27 => g_if (aB sh t27 .int x1) (nm (gsI m26 t27 (x1).toNatClampNeg 3) (fun m29 => some m29))))))))))))))
set_option maxRecDepth 100000 in
set_option maxHeartbeats 4000000 in
theorem tf_X8_imports {X : gX} {w : gW} {rm : gM} (C : gC X w K_X8_imports 4 RX8 2) (hr : X.2.2.2.2.2.2.2.2.1.sig.returnType = none) {F : Nat} {x0 : Nat} {x1 : Int32} {m : gM} (h : f_X8_imports w.2.2.2.2.1 F x0 x1 m = some rm) : gV X w 0 0 (gR X w none rm) 4 0 [(0, .ref x0), (1, .int x1)] [] m := by
  unfold f_X8_imports at h
  refine v_aload_n (pc := 0) C 0 0 rfl rfl rfl ?_
  obtain ⟨o1, h⟩ := g_okk h
  obtain ⟨t2, qt2, h⟩ := g_bd h
  refine v_getR (pc := 1) C 1 rfl lf_ScopeGraphModel_110 (g_oB o1) rfl qt2 ?_
  refine v_iload_n (pc := 4) C 2 1 rfl rfl rfl ?_
  obtain ⟨b3, h⟩ := g_okk h
  refine v_iald' (pc := 5) C 3 rfl b3 ?_
  by_cases c4 : (m.1 t2 (x1).toNatClampNeg) = 0
  · replace h := g_ifT c4 h
    refine v_tableIn (pc := 6) C 4 36 rfl (by rw [c4]; decide) (by rw [c4]; decide) (by rw [c4]; rfl) (by decide) ?_
    refine v_aload_n (pc := 36) C 5 0 rfl rfl rfl ?_
    obtain ⟨t5, qt5, h⟩ := g_bd h
    refine v_getR (pc := 37) C 6 rfl lf_ScopeGraphModel_135 (g_oB o1) rfl qt5 ?_
    refine v_iload_n (pc := 40) C 7 1 rfl rfl rfl ?_
    refine v_iconst (pc := 41) C 8 0 rfl (by decide) ?_
    obtain ⟨b6, h⟩ := g_okk h
    refine v_iast' (pc := 42) C 9 rfl b6 ?_
    refine v_topM (fun m7 em7 => ?_)
    replace h := g_nm h em7
    refine v_aload_n (pc := 43) C 10 0 rfl rfl rfl ?_
    obtain ⟨t8, qt8, h⟩ := g_bd h
    refine v_getR (pc := 44) C 11 rfl lf_ScopeGraphModel_110 (g_oB o1) rfl qt8 ?_
    refine v_iload_n (pc := 47) C 12 1 rfl rfl rfl ?_
    refine v_iconst (pc := 48) C 13 1 rfl (by decide) ?_
    obtain ⟨b9, h⟩ := g_okk h
    refine v_iast' (pc := 49) C 14 rfl b9 ?_
    refine v_topM (fun m10 em10 => ?_)
    replace h := g_nm h em10
    refine v_goto (pc := 50) C 15 348 rfl (by decide) ?_
    cases g_s1' h
    exact v_vret (pc := 348) C 195 rfl hr
  · replace h := g_ifF c4 h
    have zc4 := g_tne (n := 0) (by decide) c4
    by_cases c11 : (m.1 t2 (x1).toNatClampNeg) = 1
    · replace h := g_ifT c11 h
      refine v_tableIn (pc := 6) C 4 53 rfl (by rw [c11]; decide) (by rw [c11]; decide) (by rw [c11]; rfl) (by decide) ?_
      refine v_aload_n (pc := 53) C 16 0 rfl rfl rfl ?_
      obtain ⟨t12, qt12, h⟩ := g_bd h
      refine v_getR (pc := 54) C 17 rfl lf_ScopeGraphModel_135 (g_oB o1) rfl qt12 ?_
      refine v_iload_n (pc := 57) C 18 1 rfl rfl rfl ?_
      obtain ⟨b13, h⟩ := g_okk h
      refine v_iald' (pc := 58) C 19 rfl b13 ?_
      refine v_topI (fun v14 ev14 => ?_)
      replace h := g_nm h ev14
      refine v_istore_n (pc := 59) (lv' := [(2, .int v14), (0, .ref x0), (1, .int x1)]) C 20 rfl rfl (by decide) rfl ?_
      refine v_sub [(0, .ref x0), (1, .int x1), (2, .int v14)] [1, 2, 0] rfl ?_
      exact tl_X8_imports_60 (F := F) C hr _ _ _ _ _ h
    · replace h := g_ifF c11 h
      have zc11 := g_tne (n := 1) (by decide) c11
      by_cases c15 : (m.1 t2 (x1).toNatClampNeg) = 2
      · replace h := g_ifT c15 h
        refine v_tableIn (pc := 6) C 4 182 rfl (by rw [c15]; decide) (by rw [c15]; decide) (by rw [c15]; rfl) (by decide) ?_
        refine v_aload_n (pc := 182) C 91 0 rfl rfl rfl ?_
        obtain ⟨t16, qt16, h⟩ := g_bd h
        refine v_getR (pc := 183) C 92 rfl lf_ScopeGraphModel_132 (g_oB o1) rfl qt16 ?_
        refine v_iload_n (pc := 186) C 93 1 rfl rfl rfl ?_
        refine v_aload_n (pc := 187) C 94 0 rfl rfl rfl ?_
        refine v_getL (pc := 188) C 95 rfl lf_ScopeGraphModel_324.get (g_oB o1) rfl ?_
        obtain ⟨b17, h⟩ := g_okk h
        refine v_last' (pc := 191) C 96 rfl b17 ?_
        refine v_topM (fun m18 em18 => ?_)
        replace h := g_nm h em18
        refine v_aload_n (pc := 192) C 97 0 rfl rfl rfl ?_
        obtain ⟨t19, qt19, h⟩ := g_bd h
        refine v_getR (pc := 193) C 98 rfl lf_ScopeGraphModel_110 (g_oB o1) rfl qt19 ?_
        refine v_iload_n (pc := 196) C 99 1 rfl rfl rfl ?_
        refine v_iconst (pc := 197) C 100 3 rfl (by decide) ?_
        obtain ⟨b20, h⟩ := g_okk h
        refine v_iast' (pc := 198) C 101 rfl b20 ?_
        refine v_topM (fun m21 em21 => ?_)
        replace h := g_nm h em21
        refine v_goto (pc := 199) C 102 348 rfl (by decide) ?_
        cases g_s1' h
        exact v_vret (pc := 348) C 195 rfl hr
      · replace h := g_ifF c15 h
        have zc15 := g_tne (n := 2) (by decide) c15
        by_cases c22 : (m.1 t2 (x1).toNatClampNeg) = 3
        · replace h := g_ifT c22 h
          refine v_tableIn (pc := 6) C 4 202 rfl (by rw [c22]; decide) (by rw [c22]; decide) (by rw [c22]; rfl) (by decide) ?_
          refine v_iconst (pc := 202) C 103 0 rfl (by decide) ?_
          refine v_istore_n (pc := 203) (lv' := [(3, .int 0), (0, .ref x0), (1, .int x1)]) C 104 rfl rfl (by decide) rfl ?_
          refine v_sub [(0, .ref x0), (1, .int x1), (3, .int 0)] [1, 2, 0] rfl ?_
          exact tl_X8_imports_204 (F := F) C hr _ _ _ _ _ h
        · replace h := g_ifF c22 h
          have zc22 := g_tne (n := 3) (by decide) c22
          refine v_tableOut (pc := 6) C 4 328 rfl (by omega) (by decide) ?_
          refine v_aload_n (pc := 328) C 181 0 rfl rfl rfl ?_
          obtain ⟨t23, qt23, h⟩ := g_bd h
          refine v_getR (pc := 329) C 182 rfl lf_ScopeGraphModel_129 (g_oB o1) rfl qt23 ?_
          refine v_iload_n (pc := 332) C 183 1 rfl rfl rfl ?_
          refine v_dup2 (pc := 333) C 184 rfl rfl rfl ?_
          obtain ⟨b24, h⟩ := g_okk h
          refine v_lald' (pc := 334) C 185 rfl b24 ?_
          refine v_aload_n (pc := 335) C 186 0 rfl rfl rfl ?_
          refine v_getL (pc := 336) C 187 rfl lf_ScopeGraphModel_324.get (g_oB o1) rfl ?_
          refine v_lor (pc := 339) C 188 rfl ?_
          obtain ⟨b25, h⟩ := g_okk h
          refine v_last' (pc := 340) C 189 rfl b25 ?_
          refine v_topM (fun m26 em26 => ?_)
          replace h := g_nm h em26
          refine v_aload_n (pc := 341) C 190 0 rfl rfl rfl ?_
          obtain ⟨t27, qt27, h⟩ := g_bd h
          refine v_getR (pc := 342) C 191 rfl lf_ScopeGraphModel_110 (g_oB o1) rfl qt27 ?_
          refine v_iload_n (pc := 345) C 192 1 rfl rfl rfl ?_
          refine v_iconst (pc := 346) C 193 3 rfl (by decide) ?_
          obtain ⟨b28, h⟩ := g_okk h
          refine v_iast' (pc := 347) C 194 rfl b28 ?_
          refine v_topM (fun m29 em29 => ?_)
          replace h := g_nm h em29
          cases g_s1' h
          exact v_vret (pc := 348) C 195 rfl hr
theorem c_X8_imports {l : Launch} {w : gW} {rm : gM} (hJ : gJok w) {F : Nat} {x0 : Nat} {x1 : Int32} {m : gM} (h : f_X8_imports w.2.2.2.2.1 F x0 x1 m = some rm) : gMet l 2 yX8_imports cX8_imports 4 none w [.ref x0, .int x1] m none rm :=
  gMet.of hJ mf_X8_imports dk_X8_imports (Nat.le_of_ble_eq_true rfl) (fun X _ C hr => tf_X8_imports (F := F) C hr h)
def b_X8_here_45 (sh : List gS) (F : Nat) (k5 : Nat → Int32 → Int32 → Int64 → Int32 → gM → Option (Int64 × gM)) (x0 : Nat) (x1 : Int32) (x2 : Int32) (x5 : Int32) (y0 : Int64) (y1 : Int64) (m : gM) : Option (Int64 × gM) :=
  nm (y1 ||| y0) (fun v1 => nm (x5 + Int32.ofInt 1) (fun v2 => k5 x0 x1 x2 v1 v2 m))
set_option maxRecDepth 100000 in
set_option maxHeartbeats 4000000 in
theorem tb_X8_here_45 {X : gX} {w : gW} {rr : Int64} {rm : gM} (C : gC X w K_X8_here 6 RX8 0) (hr : X.2.2.2.2.2.2.2.2.1.sig.returnType = (some .long)) {F : Nat} {k5 : Nat → Int32 → Int32 → Int64 → Int32 → gM → Option (Int64 × gM)} (hk5 : ∀ (z0 : Nat) (z1 : Int32) (z2 : Int32) (z3 : Int64) (z5 : Int32) (m : gM), k5 z0 z1 z2 z3 z5 m = some (rr, rm) → gV X w 0 0 (gR X w (some (.long rr)) rm) 6 5 [(0, .ref z0), (1, .int z1), (2, .int z2), (3, .long z3), (5, .int z5)] [] m) {x0 : Nat} {x1 : Int32} {x2 : Int32} {x5 : Int32} {y0 : Int64} {y1 : Int64} {m : gM} (h : b_X8_here_45 w.2.2.2.2.1 F k5 x0 x1 x2 x5 y0 y1 m = some (rr, rm)) : gV X w 0 0 (gR X w (some (.long rr)) rm) 6 45 [(0, .ref x0), (1, .int x1), (2, .int x2), (5, .int x5)] [.long y0, .long y1] m := by
  unfold b_X8_here_45 at h
  refine v_lor (pc := 45) C 26 rfl ?_
  refine v_topJ (fun v1 ev1 => ?_)
  replace h := g_nm h ev1
  refine v_lstore_n (pc := 46) (lv' := [(3, .long v1), (0, .ref x0), (1, .int x1), (2, .int x2), (5, .int x5)]) C 27 rfl rfl (by decide) rfl ?_
  refine v_iincN (pc := 47) C 28 4 (fun v2 => [(5, .int v2), (3, .long v1), (0, .ref x0), (1, .int x1), (2, .int x2)]) rfl rfl (by decide) (fun _ => rfl) (fun v2 ev2 => ?_)
  replace h := g_nm h ev2
  refine v_goto (pc := 50) C 29 5 rfl (by decide) ?_
  refine v_sub [(0, .ref x0), (1, .int x1), (2, .int x2), (3, .long v1), (5, .int v2)] [2, 3, 4, 1, 0] rfl ?_
  exact hk5 _ _ _ _ _ _ h
def b_X8_here_44 (sh : List gS) (F : Nat) (k5 : Nat → Int32 → Int32 → Int64 → Int32 → gM → Option (Int64 × gM)) (x0 : Nat) (x1 : Int32) (x2 : Int32) (x5 : Int32) (y0 : Int64) (m : gM) : Option (Int64 × gM) :=
  b_X8_here_45 sh F k5 x0 x1 x2 x5 0 y0 m
set_option maxRecDepth 100000 in
set_option maxHeartbeats 4000000 in
theorem tb_X8_here_44 {X : gX} {w : gW} {rr : Int64} {rm : gM} (C : gC X w K_X8_here 6 RX8 0) (hr : X.2.2.2.2.2.2.2.2.1.sig.returnType = (some .long)) {F : Nat} {k5 : Nat → Int32 → Int32 → Int64 → Int32 → gM → Option (Int64 × gM)} (hk5 : ∀ (z0 : Nat) (z1 : Int32) (z2 : Int32) (z3 : Int64) (z5 : Int32) (m : gM), k5 z0 z1 z2 z3 z5 m = some (rr, rm) → gV X w 0 0 (gR X w (some (.long rr)) rm) 6 5 [(0, .ref z0), (1, .int z1), (2, .int z2), (3, .long z3), (5, .int z5)] [] m) {x0 : Nat} {x1 : Int32} {x2 : Int32} {x5 : Int32} {y0 : Int64} {m : gM} (h : b_X8_here_44 w.2.2.2.2.1 F k5 x0 x1 x2 x5 y0 m = some (rr, rm)) : gV X w 0 0 (gR X w (some (.long rr)) rm) 6 44 [(0, .ref x0), (1, .int x1), (2, .int x2), (5, .int x5)] [.long y0] m := by
  unfold b_X8_here_44 at h
  refine v_lconst (pc := 44) C 25 0 rfl (by decide) ?_
  refine v_sub [(0, .ref x0), (1, .int x1), (2, .int x2), (5, .int x5)] [0, 1, 2, 3] rfl ?_
  exact tb_X8_here_45 (F := F) C hr hk5 h
def b_X8_here_5 (sh : List gS) (F : Nat) (k5 : Nat → Int32 → Int32 → Int64 → Int32 → gM → Option (Int64 × gM)) (x0 : Nat) (x1 : Int32) (x2 : Int32) (x3 : Int64) (x5 : Int32) (m : gM) : Option (Int64 × gM) :=
  g_if (oB sh x0 8) (if (m.1 x0 15) ≤ x5 then (some (x3, m)) else ((m.2.2 x0 11).bind (fun t3 => g_if (aB sh t3 .int x5) (if (m.1 t3 (x5).toNatClampNeg) = x1 then ((m.2.2 x0 52).bind (fun t6 => g_if (aB sh t6 .int x5) (if (m.1 t6 (x5).toNatClampNeg) = x2 then (b_X8_here_45 sh F k5 x0 x1 x2 x5 ((1 : Int64) <<< (x5.toInt64 &&& 63)) x3 m) else (b_X8_here_44 sh F k5 x0 x1 x2 x5 x3 m)))) else (b_X8_here_44 sh F k5 x0 x1 x2 x5 x3 m)))))
set_option maxRecDepth 100000 in
set_option maxHeartbeats 4000000 in
theorem tb_X8_here_5 {X : gX} {w : gW} {rr : Int64} {rm : gM} (C : gC X w K_X8_here 6 RX8 0) (hr : X.2.2.2.2.2.2.2.2.1.sig.returnType = (some .long)) {F : Nat} {k5 : Nat → Int32 → Int32 → Int64 → Int32 → gM → Option (Int64 × gM)} (hk5 : ∀ (z0 : Nat) (z1 : Int32) (z2 : Int32) (z3 : Int64) (z5 : Int32) (m : gM), k5 z0 z1 z2 z3 z5 m = some (rr, rm) → gV X w 0 0 (gR X w (some (.long rr)) rm) 6 5 [(0, .ref z0), (1, .int z1), (2, .int z2), (3, .long z3), (5, .int z5)] [] m) {x0 : Nat} {x1 : Int32} {x2 : Int32} {x3 : Int64} {x5 : Int32} {m : gM} (h : b_X8_here_5 w.2.2.2.2.1 F k5 x0 x1 x2 x3 x5 m = some (rr, rm)) : gV X w 0 0 (gR X w (some (.long rr)) rm) 6 5 [(0, .ref x0), (1, .int x1), (2, .int x2), (3, .long x3), (5, .int x5)] [] m := by
  unfold b_X8_here_5 at h
  refine v_iload (pc := 5) C 4 4 rfl rfl ?_
  refine v_aload_n (pc := 7) C 5 0 rfl rfl rfl ?_
  obtain ⟨o1, h⟩ := g_okk h
  refine v_getI (pc := 8) C 6 rfl lf_ScopeGraphModel_211.get (g_oB o1) rfl ?_
  refine v_icmp_ge (pc := 11) C 7 53 rfl (by decide) (fun c2 => ?_) (fun c2 => ?_)
  · replace h := g_ifT c2 h
    refine v_lload_n (pc := 53) C 30 3 rfl rfl rfl ?_
    obtain ⟨rfl, rfl⟩ := g_so h
    exact v_lret (pc := 54) C 31 rfl hr
  · replace h := g_ifF c2 h
    refine v_lload_n (pc := 14) C 8 3 rfl rfl rfl ?_
    refine v_aload_n (pc := 15) C 9 0 rfl rfl rfl ?_
    obtain ⟨t3, qt3, h⟩ := g_bd h
    refine v_getR (pc := 16) C 10 rfl lf_ScopeGraphModel_29 (g_oB o1) rfl qt3 ?_
    refine v_iload (pc := 19) C 11 4 rfl rfl ?_
    obtain ⟨b4, h⟩ := g_okk h
    refine v_iald' (pc := 21) C 12 rfl b4 ?_
    refine v_iload_n (pc := 22) C 13 1 rfl rfl rfl ?_
    refine v_icmp_ne (pc := 23) C 14 44 rfl (by decide) (fun c5 => ?_) (fun c5 => ?_)
    · replace h := g_ifF c5 h
      refine v_sub [(0, .ref x0), (1, .int x1), (2, .int x2), (5, .int x5)] [0, 1, 2, 4] rfl ?_
      exact tb_X8_here_44 (F := F) C hr hk5 h
    · replace h := g_ifT c5 h
      refine v_aload_n (pc := 26) C 15 0 rfl rfl rfl ?_
      obtain ⟨t6, qt6, h⟩ := g_bd h
      refine v_getR (pc := 27) C 16 rfl lf_ScopeGraphModel_101 (g_oB o1) rfl qt6 ?_
      refine v_iload (pc := 30) C 17 4 rfl rfl ?_
      obtain ⟨b7, h⟩ := g_okk h
      refine v_iald' (pc := 32) C 18 rfl b7 ?_
      refine v_iload_n (pc := 33) C 19 2 rfl rfl rfl ?_
      refine v_icmp_ne (pc := 34) C 20 44 rfl (by decide) (fun c8 => ?_) (fun c8 => ?_)
      · replace h := g_ifF c8 h
        refine v_sub [(0, .ref x0), (1, .int x1), (2, .int x2), (5, .int x5)] [0, 1, 2, 4] rfl ?_
        exact tb_X8_here_44 (F := F) C hr hk5 h
      · replace h := g_ifT c8 h
        refine v_lconst (pc := 37) C 21 1 rfl (by decide) ?_
        refine v_iload (pc := 38) C 22 4 rfl rfl ?_
        refine v_lshl (pc := 40) C 23 rfl ?_
        refine v_goto (pc := 41) C 24 45 rfl (by decide) ?_
        refine v_sub [(0, .ref x0), (1, .int x1), (2, .int x2), (5, .int x5)] [0, 1, 2, 4] rfl ?_
        exact tb_X8_here_45 (F := F) C hr hk5 h
def l_X8_here_5 (sh : List gS) (F : Nat) : Nat → Nat → Int32 → Int32 → Int64 → Int32 → gM → Option (Int64 × gM)
  | 0 => fun _ _ _ _ _ _ => none
  | n + 1 => fun x0 x1 x2 x3 x5 m => b_X8_here_5 sh F (l_X8_here_5 sh F n) x0 x1 x2 x3 x5 m
theorem tl_X8_here_5 {X : gX} {w : gW} {rr : Int64} {rm : gM} (C : gC X w K_X8_here 6 RX8 0) (hr : X.2.2.2.2.2.2.2.2.1.sig.returnType = (some .long)) {F : Nat} : ∀ (n : Nat) (x0 : Nat) (x1 : Int32) (x2 : Int32) (x3 : Int64) (x5 : Int32) (m : gM), l_X8_here_5 w.2.2.2.2.1 F n x0 x1 x2 x3 x5 m = some (rr, rm) → gV X w 0 0 (gR X w (some (.long rr)) rm) 6 5 [(0, .ref x0), (1, .int x1), (2, .int x2), (3, .long x3), (5, .int x5)] [] m := by
  intro n
  induction n with
  | zero => intro x0 x1 x2 x3 x5 m h; cases h
  | succ n ih => intro x0 x1 x2 x3 x5 m h; exact tb_X8_here_5 (F := F) C hr ih h
def f_X8_here (sh : List gS) (F : Nat) (x0 : Nat) (x1 : Int32) (x2 : Int32) (m : gM) : Option (Int64 × gM) :=
  l_X8_here_5 sh F F x0 x1 x2 0 0 m
set_option maxRecDepth 100000 in
set_option maxHeartbeats 4000000 in
theorem tf_X8_here {X : gX} {w : gW} {rr : Int64} {rm : gM} (C : gC X w K_X8_here 6 RX8 0) (hr : X.2.2.2.2.2.2.2.2.1.sig.returnType = (some .long)) {F : Nat} {x0 : Nat} {x1 : Int32} {x2 : Int32} {m : gM} (h : f_X8_here w.2.2.2.2.1 F x0 x1 x2 m = some (rr, rm)) : gV X w 0 0 (gR X w (some (.long rr)) rm) 6 0 [(0, .ref x0), (1, .int x1), (2, .int x2)] [] m := by
  unfold f_X8_here at h
  refine v_lconst (pc := 0) C 0 0 rfl (by decide) ?_
  refine v_lstore_n (pc := 1) (lv' := [(3, .long 0), (0, .ref x0), (1, .int x1), (2, .int x2)]) C 1 rfl rfl (by decide) rfl ?_
  refine v_iconst (pc := 2) C 2 0 rfl (by decide) ?_
  refine v_istore (pc := 3) (lv' := [(5, .int 0), (3, .long 0), (0, .ref x0), (1, .int x1), (2, .int x2)]) C 3 rfl (by decide) rfl ?_
  refine v_sub [(0, .ref x0), (1, .int x1), (2, .int x2), (3, .long 0), (5, .int 0)] [2, 3, 4, 1, 0] rfl ?_
  exact tl_X8_here_5 (F := F) C hr _ _ _ _ _ _ _ h
theorem c_X8_here {l : Launch} {w : gW} {rr : Int64} {rm : gM} (hJ : gJok w) {F : Nat} {x0 : Nat} {x1 : Int32} {x2 : Int32} {m : gM} (h : f_X8_here w.2.2.2.2.1 F x0 x1 x2 m = some (rr, rm)) : gMet l 0 yX8_here cX8_here 6 (some .long) w [.ref x0, .int x1, .int x2] m (some (.long rr)) rm :=
  gMet.of hJ mf_X8_here dk_X8_here (Nat.le_of_ble_eq_true rfl) (fun X _ C hr => tf_X8_here (F := F) C hr h)
def b_X8_local_64 (sh : List gS) (F : Nat) (x0 : Nat) (x3 : Int64) (m : gM) : Option (gM) :=
  g_if (oB sh x0 8) ((f_X8_says sh F x0 x3 m).bind (fun m2 => some m2))
set_option maxRecDepth 100000 in
set_option maxHeartbeats 4000000 in
theorem tb_X8_local_64 {X : gX} {w : gW} {rm : gM} (C : gC X w K_X8_local 5 RX8 1) (hr : X.2.2.2.2.2.2.2.2.1.sig.returnType = none) {F : Nat} {x0 : Nat} {x3 : Int64} {m : gM} (h : b_X8_local_64 w.2.2.2.2.1 F x0 x3 m = some rm) : gV X w 0 0 (gR X w none rm) 5 64 [(0, .ref x0), (3, .long x3)] [] m := by
  unfold b_X8_local_64 at h
  refine v_aload_n (pc := 64) C 38 0 rfl rfl rfl ?_
  refine v_lload_n (pc := 65) C 39 1 rfl rfl rfl ?_
  obtain ⟨o1, h⟩ := g_okk h
  obtain ⟨m2, qm2, h⟩ := g_bd h
  refine v_callV (pc := 66) C 40 rfl mf_X8_says clX8 rfl im_X8_says lm_ScopeGraphModel_359 (c_X8_says C.2.2.2.2.2.2.2.2.2.2.2 qm2) (by decide) rfl (g_oB o1) (Nat.le_of_ble_eq_true rfl) ⟨Nat.zero_le _, Nat.zero_le _⟩ rfl ?_
  change gV X w 0 0 (gR X w none rm) 5 69 [(0, .ref x0), (3, .long x3)] [] m2
  cases g_s1' h
  exact v_vret (pc := 69) C 41 rfl hr
def b_X8_local_44 (sh : List gS) (F : Nat) (x0 : Nat) (x1 : Int32) (x2 : Int32) (y0 : Int64) (m : gM) : Option (gM) :=
  if y0 = (0 : Int64) then (g_if (oB sh x0 8) ((m.2.2 x0 60).bind (fun t3 => g_if (aB sh t3 .long x1) ((f_X8_has sh F (m.2.1 t3 (x1).toNatClampNeg) x2 m).bind (fun q7 => nm q7.1 (fun r6 => nm q7.2 (fun m5 => if r6 = 0 then ((m5.2.2 x0 55).bind (fun t9 => g_if (aB sh t9 .int x1) (nm (gsI m5 t9 (x1).toNatClampNeg 1) (fun m11 => (m11.2.2 x0 57).bind (fun t12 => g_if (aB sh t12 .int x1) ((m11.2.2 x0 58).bind (fun t14 => g_if (aB sh t14 .long x1) ((m11.2.2 x0 59).bind (fun t16 => g_if (aB sh t16 .long x1) ((m11.2.2 x0 60).bind (fun t18 => g_if (aB sh t18 .long x1) ((f_X8_ask sh F x0 1 x2 (m11.1 t12 (x1).toNatClampNeg) (m11.2.1 t14 (x1).toNatClampNeg) (m11.2.1 t16 (x1).toNatClampNeg) (m11.2.1 t18 (x1).toNatClampNeg) m11).bind (fun m20 => some m20))))))))))))) else (b_X8_local_64 sh F x0 y0 m5)))))))) else (b_X8_local_64 sh F x0 y0 m)
set_option maxRecDepth 100000 in
set_option maxHeartbeats 4000000 in
theorem tb_X8_local_44 {X : gX} {w : gW} {rm : gM} (C : gC X w K_X8_local 5 RX8 1) (hr : X.2.2.2.2.2.2.2.2.1.sig.returnType = none) {F : Nat} {x0 : Nat} {x1 : Int32} {x2 : Int32} {y0 : Int64} {m : gM} (h : b_X8_local_44 w.2.2.2.2.1 F x0 x1 x2 y0 m = some rm) : gV X w 0 0 (gR X w none rm) 5 44 [(0, .ref x0), (1, .int x1), (2, .int x2)] [.long y0] m := by
  unfold b_X8_local_44 at h
  refine v_lstore_n (pc := 44) (lv' := [(3, .long y0), (0, .ref x0), (1, .int x1), (2, .int x2)]) C 26 rfl rfl (by decide) rfl ?_
  refine v_lload_n (pc := 45) C 27 0 rfl rfl rfl ?_
  refine v_lconst (pc := 46) C 28 0 rfl (by decide) ?_
  refine v_lcmp (pc := 47) C 29 rfl ?_
  refine v_lif_ne (pc := 48) C 30 64 rfl (by decide) (fun c1 => ?_) (fun c1 => ?_)
  · replace h := g_ifF c1 h
    refine v_sub [(0, .ref x0), (3, .long y0)] [1, 0] rfl ?_
    exact tb_X8_local_64 (F := F) C hr h
  · replace h := g_ifT c1 h
    refine v_aload_n (pc := 51) C 31 1 rfl rfl rfl ?_
    obtain ⟨o2, h⟩ := g_okk h
    obtain ⟨t3, qt3, h⟩ := g_bd h
    refine v_getR (pc := 52) C 32 rfl lf_ScopeGraphModel_126 (g_oB o2) rfl qt3 ?_
    refine v_iload_n (pc := 55) C 33 2 rfl rfl rfl ?_
    obtain ⟨b4, h⟩ := g_okk h
    refine v_lald' (pc := 56) C 34 rfl b4 ?_
    refine v_iload_n (pc := 57) C 35 3 rfl rfl rfl ?_
    obtain ⟨⟨r6, m5⟩, qm5, h⟩ := g_bd h
    replace h := g_nm (y := m5) (g_nm (y := r6) h rfl) rfl
    refine v_callS (pc := 58) C 36 rfl mf_X8_has sm_X8_has lm_ScopeGraphModel_351 (c_X8_has C.2.2.2.2.2.2.2.2.2.2.2 qm5) (by decide) rfl (Nat.le_of_ble_eq_true rfl) ⟨Nat.zero_le _, Nat.zero_le _⟩ rfl ?_
    change gV X w 0 0 (gR X w none rm) 5 61 [(3, .long y0), (0, .ref x0), (1, .int x1), (2, .int x2)] [.int r6] m5
    refine v_if_eq (pc := 61) C 37 70 rfl (by decide) (fun c8 => ?_) (fun c8 => ?_)
    · replace h := g_ifT c8 h
      refine v_aload_n (pc := 70) C 42 1 rfl rfl rfl ?_
      obtain ⟨t9, qt9, h⟩ := g_bd h
      refine v_getR (pc := 71) C 43 rfl lf_ScopeGraphModel_110 (g_oB o2) rfl qt9 ?_
      refine v_iload_n (pc := 74) C 44 2 rfl rfl rfl ?_
      refine v_iconst (pc := 75) C 45 1 rfl (by decide) ?_
      obtain ⟨b10, h⟩ := g_okk h
      refine v_iast' (pc := 76) C 46 rfl b10 ?_
      refine v_topM (fun m11 em11 => ?_)
      replace h := g_nm h em11
      refine v_aload_n (pc := 77) C 47 1 rfl rfl rfl ?_
      refine v_iconst (pc := 78) C 48 1 rfl (by decide) ?_
      refine v_iload_n (pc := 79) C 49 3 rfl rfl rfl ?_
      refine v_aload_n (pc := 80) C 50 1 rfl rfl rfl ?_
      obtain ⟨t12, qt12, h⟩ := g_bd h
      refine v_getR (pc := 81) C 51 rfl lf_ScopeGraphModel_116 (g_oB o2) rfl qt12 ?_
      refine v_iload_n (pc := 84) C 52 2 rfl rfl rfl ?_
      obtain ⟨b13, h⟩ := g_okk h
      refine v_iald' (pc := 85) C 53 rfl b13 ?_
      refine v_aload_n (pc := 86) C 54 1 rfl rfl rfl ?_
      obtain ⟨t14, qt14, h⟩ := g_bd h
      refine v_getR (pc := 87) C 55 rfl lf_ScopeGraphModel_119 (g_oB o2) rfl qt14 ?_
      refine v_iload_n (pc := 90) C 56 2 rfl rfl rfl ?_
      obtain ⟨b15, h⟩ := g_okk h
      refine v_lald' (pc := 91) C 57 rfl b15 ?_
      refine v_aload_n (pc := 92) C 58 1 rfl rfl rfl ?_
      obtain ⟨t16, qt16, h⟩ := g_bd h
      refine v_getR (pc := 93) C 59 rfl lf_ScopeGraphModel_123 (g_oB o2) rfl qt16 ?_
      refine v_iload_n (pc := 96) C 60 2 rfl rfl rfl ?_
      obtain ⟨b17, h⟩ := g_okk h
      refine v_lald' (pc := 97) C 61 rfl b17 ?_
      refine v_aload_n (pc := 98) C 62 1 rfl rfl rfl ?_
      obtain ⟨t18, qt18, h⟩ := g_bd h
      refine v_getR (pc := 99) C 63 rfl lf_ScopeGraphModel_126 (g_oB o2) rfl qt18 ?_
      refine v_iload_n (pc := 102) C 64 2 rfl rfl rfl ?_
      obtain ⟨b19, h⟩ := g_okk h
      refine v_lald' (pc := 103) C 65 rfl b19 ?_
      obtain ⟨m20, qm20, h⟩ := g_bd h
      refine v_callV (pc := 104) C 66 rfl mf_X8_ask clX8 rfl im_X8_ask lm_ScopeGraphModel_347 (c_X8_ask C.2.2.2.2.2.2.2.2.2.2.2 qm20) (by decide) rfl (g_oB o2) (Nat.le_of_ble_eq_true rfl) ⟨Nat.zero_le _, Nat.zero_le _⟩ rfl ?_
      change gV X w 0 0 (gR X w none rm) 5 107 [(3, .long y0), (0, .ref x0), (1, .int x1), (2, .int x2)] [] m20
      cases g_s1' h
      exact v_vret (pc := 107) C 67 rfl hr
    · replace h := g_ifF c8 h
      refine v_sub [(0, .ref x0), (3, .long y0)] [1, 0] rfl ?_
      exact tb_X8_local_64 (F := F) C hr h
def f_X8_local (sh : List gS) (F : Nat) (x0 : Nat) (x1 : Int32) (m : gM) : Option (gM) :=
  g_if (oB sh x0 8) ((m.2.2 x0 56).bind (fun t2 => g_if (aB sh t2 .int x1) (nm (m.1 t2 (x1).toNatClampNeg) (fun v4 => (m.2.2 x0 55).bind (fun t5 => g_if (aB sh t5 .int x1) (if (m.1 t5 (x1).toNatClampNeg) = 0 then ((m.2.2 x0 60).bind (fun t10 => g_if (aB sh t10 .long x1) ((f_X8_has sh F (m.2.1 t10 (x1).toNatClampNeg) v4 m).bind (fun q14 => nm q14.1 (fun r13 => nm q14.2 (fun m12 => if r13 = 0 then ((m12.2.2 x0 57).bind (fun t16 => g_if (aB sh t16 .int x1) ((f_X8_here sh F x0 v4 (m12.1 t16 (x1).toNatClampNeg) m12).bind (fun q20 => nm q20.1 (fun r19 => nm q20.2 (fun m18 => b_X8_local_44 sh F x0 x1 v4 r19 m18)))))) else (b_X8_local_44 sh F x0 x1 v4 0 m12))))))) else ((f_X8_says sh F x0 (m.2.1 x0 65) m).bind (fun m8 => some m8))))))))
set_option maxRecDepth 100000 in
set_option maxHeartbeats 4000000 in
theorem tf_X8_local {X : gX} {w : gW} {rm : gM} (C : gC X w K_X8_local 5 RX8 1) (hr : X.2.2.2.2.2.2.2.2.1.sig.returnType = none) {F : Nat} {x0 : Nat} {x1 : Int32} {m : gM} (h : f_X8_local w.2.2.2.2.1 F x0 x1 m = some rm) : gV X w 0 0 (gR X w none rm) 5 0 [(0, .ref x0), (1, .int x1)] [] m := by
  unfold f_X8_local at h
  refine v_aload_n (pc := 0) C 0 0 rfl rfl rfl ?_
  obtain ⟨o1, h⟩ := g_okk h
  obtain ⟨t2, qt2, h⟩ := g_bd h
  refine v_getR (pc := 1) C 1 rfl lf_ScopeGraphModel_113 (g_oB o1) rfl qt2 ?_
  refine v_iload_n (pc := 4) C 2 1 rfl rfl rfl ?_
  obtain ⟨b3, h⟩ := g_okk h
  refine v_iald' (pc := 5) C 3 rfl b3 ?_
  refine v_topI (fun v4 ev4 => ?_)
  replace h := g_nm h ev4
  refine v_istore_n (pc := 6) (lv' := [(2, .int v4), (0, .ref x0), (1, .int x1)]) C 4 rfl rfl (by decide) rfl ?_
  refine v_aload_n (pc := 7) C 5 1 rfl rfl rfl ?_
  obtain ⟨t5, qt5, h⟩ := g_bd h
  refine v_getR (pc := 8) C 6 rfl lf_ScopeGraphModel_110 (g_oB o1) rfl qt5 ?_
  refine v_iload_n (pc := 11) C 7 2 rfl rfl rfl ?_
  obtain ⟨b6, h⟩ := g_okk h
  refine v_iald' (pc := 12) C 8 rfl b6 ?_
  refine v_if_ne (pc := 13) C 9 108 rfl (by decide) (fun c7 => ?_) (fun c7 => ?_)
  · replace h := g_ifF c7 h
    refine v_aload_n (pc := 108) C 68 1 rfl rfl rfl ?_
    refine v_aload_n (pc := 109) C 69 1 rfl rfl rfl ?_
    refine v_getL (pc := 110) C 70 rfl lf_ScopeGraphModel_324.get (g_oB o1) rfl ?_
    obtain ⟨m8, qm8, h⟩ := g_bd h
    refine v_callV (pc := 113) C 71 rfl mf_X8_says clX8 rfl im_X8_says lm_ScopeGraphModel_359 (c_X8_says C.2.2.2.2.2.2.2.2.2.2.2 qm8) (by decide) rfl (g_oB o1) (Nat.le_of_ble_eq_true rfl) ⟨Nat.zero_le _, Nat.zero_le _⟩ rfl ?_
    change gV X w 0 0 (gR X w none rm) 5 116 [(2, .int v4), (0, .ref x0), (1, .int x1)] [] m8
    cases g_s1' h
    exact v_vret (pc := 116) C 72 rfl hr
  · replace h := g_ifT c7 h
    refine v_aload_n (pc := 16) C 10 1 rfl rfl rfl ?_
    obtain ⟨t10, qt10, h⟩ := g_bd h
    refine v_getR (pc := 17) C 11 rfl lf_ScopeGraphModel_126 (g_oB o1) rfl qt10 ?_
    refine v_iload_n (pc := 20) C 12 2 rfl rfl rfl ?_
    obtain ⟨b11, h⟩ := g_okk h
    refine v_lald' (pc := 21) C 13 rfl b11 ?_
    refine v_iload_n (pc := 22) C 14 0 rfl rfl rfl ?_
    obtain ⟨⟨r13, m12⟩, qm12, h⟩ := g_bd h
    replace h := g_nm (y := m12) (g_nm (y := r13) h rfl) rfl
    refine v_callS (pc := 23) C 15 rfl mf_X8_has sm_X8_has lm_ScopeGraphModel_351 (c_X8_has C.2.2.2.2.2.2.2.2.2.2.2 qm12) (by decide) rfl (Nat.le_of_ble_eq_true rfl) ⟨Nat.zero_le _, Nat.zero_le _⟩ rfl ?_
    change gV X w 0 0 (gR X w none rm) 5 26 [(2, .int v4), (0, .ref x0), (1, .int x1)] [.int r13] m12
    refine v_if_eq (pc := 26) C 16 33 rfl (by decide) (fun c15 => ?_) (fun c15 => ?_)
    · replace h := g_ifT c15 h
      refine v_aload_n (pc := 33) C 19 1 rfl rfl rfl ?_
      refine v_iload_n (pc := 34) C 20 0 rfl rfl rfl ?_
      refine v_aload_n (pc := 35) C 21 1 rfl rfl rfl ?_
      obtain ⟨t16, qt16, h⟩ := g_bd h
      refine v_getR (pc := 36) C 22 rfl lf_ScopeGraphModel_116 (g_oB o1) rfl qt16 ?_
      refine v_iload_n (pc := 39) C 23 2 rfl rfl rfl ?_
      obtain ⟨b17, h⟩ := g_okk h
      refine v_iald' (pc := 40) C 24 rfl b17 ?_
      obtain ⟨⟨r19, m18⟩, qm18, h⟩ := g_bd h
      replace h := g_nm (y := m18) (g_nm (y := r19) h rfl) rfl
      refine v_callV (pc := 41) C 25 rfl mf_X8_here clX8 rfl im_X8_here lm_ScopeGraphModel_355 (c_X8_here C.2.2.2.2.2.2.2.2.2.2.2 qm18) (by decide) rfl (g_oB o1) (Nat.le_of_ble_eq_true rfl) ⟨Nat.zero_le _, Nat.zero_le _⟩ rfl ?_
      change gV X w 0 0 (gR X w none rm) 5 44 [(2, .int v4), (0, .ref x0), (1, .int x1)] [.long r19] m18
      refine v_sub [(0, .ref x0), (1, .int x1), (2, .int v4)] [1, 2, 0] rfl ?_
      exact tb_X8_local_44 (F := F) C hr h
    · replace h := g_ifF c15 h
      refine v_lconst (pc := 29) C 17 0 rfl (by decide) ?_
      refine v_goto (pc := 30) C 18 44 rfl (by decide) ?_
      refine v_sub [(0, .ref x0), (1, .int x1), (2, .int v4)] [1, 2, 0] rfl ?_
      exact tb_X8_local_44 (F := F) C hr h
theorem c_X8_local {l : Launch} {w : gW} {rm : gM} (hJ : gJok w) {F : Nat} {x0 : Nat} {x1 : Int32} {m : gM} (h : f_X8_local w.2.2.2.2.1 F x0 x1 m = some rm) : gMet l 1 yX8_local cX8_local 5 none w [.ref x0, .int x1] m none rm :=
  gMet.of hJ mf_X8_local dk_X8_local (Nat.le_of_ble_eq_true rfl) (fun X _ C hr => tf_X8_local (F := F) C hr h)
def b_X8_visible_151 (sh : List gS) (F : Nat) (x0 : Nat) (m : gM) : Option (gM) :=
  g_if (oB sh x0 8) ((f_X8_says sh F x0 (m.2.1 x0 65) m).bind (fun m2 => some m2))
set_option maxRecDepth 100000 in
set_option maxHeartbeats 4000000 in
theorem tb_X8_visible_151 {X : gX} {w : gW} {rm : gM} (C : gC X w K_X8_visible 6 RX8 1) (hr : X.2.2.2.2.2.2.2.2.1.sig.returnType = none) {F : Nat} {x0 : Nat} {m : gM} (h : b_X8_visible_151 w.2.2.2.2.1 F x0 m = some rm) : gV X w 0 0 (gR X w none rm) 6 151 [(0, .ref x0)] [] m := by
  unfold b_X8_visible_151 at h
  refine v_aload_n (pc := 151) C 90 0 rfl rfl rfl ?_
  refine v_aload_n (pc := 152) C 91 0 rfl rfl rfl ?_
  obtain ⟨o1, h⟩ := g_okk h
  refine v_getL (pc := 153) C 92 rfl lf_ScopeGraphModel_324.get (g_oB o1) rfl ?_
  obtain ⟨m2, qm2, h⟩ := g_bd h
  refine v_callV (pc := 156) C 93 rfl mf_X8_says clX8 rfl im_X8_says lm_ScopeGraphModel_359 (c_X8_says C.2.2.2.2.2.2.2.2.2.2.2 qm2) (by decide) rfl (g_oB o1) (Nat.le_of_ble_eq_true rfl) ⟨Nat.zero_le _, Nat.zero_le _⟩ rfl ?_
  change gV X w 0 0 (gR X w none rm) 6 159 [(0, .ref x0)] [] m2
  cases g_s1' h
  exact v_vret (pc := 159) C 94 rfl hr
def b_X8_visible_205 (sh : List gS) (F : Nat) (y0 : Int32) (y1 : Int32) (y2 : Nat) (m : gM) : Option (gM) :=
  g_if (oB sh y2 8) (nm (gsI m y2 66 (y1 + y0)) (fun m2 => some m2))
set_option maxRecDepth 100000 in
set_option maxHeartbeats 4000000 in
theorem tb_X8_visible_205 {X : gX} {w : gW} {rm : gM} (C : gC X w K_X8_visible 6 RX8 1) (hr : X.2.2.2.2.2.2.2.2.1.sig.returnType = none) {F : Nat} {y0 : Int32} {y1 : Int32} {y2 : Nat} {m : gM} (h : b_X8_visible_205 w.2.2.2.2.1 F y0 y1 y2 m = some rm) : gV X w 0 0 (gR X w none rm) 6 205 [] [.int y0, .int y1, .ref y2] m := by
  unfold b_X8_visible_205 at h
  refine v_iadd (pc := 205) C 126 rfl ?_
  obtain ⟨o1, h⟩ := g_okk h
  refine v_putI (pc := 206) C 127 rfl lf_ScopeGraphModel_328 (g_oB o1) rfl ?_
  refine v_topM (fun m2 em2 => ?_)
  replace h := g_nm h em2
  cases g_s1' h
  exact v_vret (pc := 209) C 128 rfl hr
def b_X8_visible_72 (sh : List gS) (F : Nat) (x0 : Nat) (x4 : Int64) (y0 : Int32) (y1 : Nat) (m : gM) : Option (gM) :=
  g_if (oB sh y1 8) (g_if (zB y0) (nm (gsI m y1 67 y0) (fun m2 => g_if (oB sh x0 8) ((f_X8_says sh F x0 x4 m2).bind (fun m5 => some m5)))))
set_option maxRecDepth 100000 in
set_option maxHeartbeats 4000000 in
theorem tb_X8_visible_72 {X : gX} {w : gW} {rm : gM} (C : gC X w K_X8_visible 6 RX8 1) (hr : X.2.2.2.2.2.2.2.2.1.sig.returnType = none) {F : Nat} {x0 : Nat} {x4 : Int64} {y0 : Int32} {y1 : Nat} {m : gM} (h : b_X8_visible_72 w.2.2.2.2.1 F x0 x4 y0 y1 m = some rm) : gV X w 0 0 (gR X w none rm) 6 72 [(0, .ref x0), (4, .long x4)] [.int y0, .ref y1] m := by
  unfold b_X8_visible_72 at h
  obtain ⟨o1, h⟩ := g_okk h
  obtain ⟨o3, h⟩ := g_okk h
  refine v_putZ (pc := 72) C 42 rfl lf_ScopeGraphModel_331 (g_oB o1) rfl (g_zB o3) ?_
  refine v_topM (fun m2 em2 => ?_)
  replace h := g_nm h em2
  refine v_aload_n (pc := 75) C 43 0 rfl rfl rfl ?_
  refine v_lload (pc := 76) C 44 1 rfl rfl ?_
  obtain ⟨o4, h⟩ := g_okk h
  obtain ⟨m5, qm5, h⟩ := g_bd h
  refine v_callV (pc := 78) C 45 rfl mf_X8_says clX8 rfl im_X8_says lm_ScopeGraphModel_359 (c_X8_says C.2.2.2.2.2.2.2.2.2.2.2 qm5) (by decide) rfl (g_oB o4) (Nat.le_of_ble_eq_true rfl) ⟨Nat.zero_le _, Nat.zero_le _⟩ rfl ?_
  change gV X w 0 0 (gR X w none rm) 6 81 [(0, .ref x0), (4, .long x4)] [] m5
  cases g_s1' h
  exact v_vret (pc := 81) C 46 rfl hr
def b_X8_visible_67 (sh : List gS) (F : Nat) (x0 : Nat) (x4 : Int64) (y0 : Nat) (m : gM) : Option (gM) :=
  b_X8_visible_72 sh F x0 x4 1 y0 m
set_option maxRecDepth 100000 in
set_option maxHeartbeats 4000000 in
theorem tb_X8_visible_67 {X : gX} {w : gW} {rm : gM} (C : gC X w K_X8_visible 6 RX8 1) (hr : X.2.2.2.2.2.2.2.2.1.sig.returnType = none) {F : Nat} {x0 : Nat} {x4 : Int64} {y0 : Nat} {m : gM} (h : b_X8_visible_67 w.2.2.2.2.1 F x0 x4 y0 m = some rm) : gV X w 0 0 (gR X w none rm) 6 67 [(0, .ref x0), (4, .long x4)] [.ref y0] m := by
  unfold b_X8_visible_67 at h
  refine v_iconst (pc := 67) C 39 1 rfl (by decide) ?_
  refine v_goto (pc := 68) C 40 72 rfl (by decide) ?_
  refine v_sub [(0, .ref x0), (4, .long x4)] [0, 1] rfl ?_
  exact tb_X8_visible_72 (F := F) C hr h
def b_X8_visible_46 (sh : List gS) (F : Nat) (x0 : Nat) (x1 : Int32) (x2 : Int32) (x3 : Int32) (y0 : Int64) (m : gM) : Option (gM) :=
  if y0 = (0 : Int64) then (g_if (oB sh x0 8) ((m.2.2 x0 55).bind (fun t3 => g_if (aB sh t3 .int x1) (nm (gsI m t3 (x1).toNatClampNeg 1) (fun m5 => nm (gsL m5 x0 65 0) (fun m6 => if x3 = 0 then ((m6.2.2 x0 57).bind (fun t8 => g_if (aB sh t8 .int x1) ((m6.2.2 x0 58).bind (fun t10 => g_if (aB sh t10 .long x1) ((m6.2.2 x0 59).bind (fun t12 => g_if (aB sh t12 .long x1) ((m6.2.2 x0 60).bind (fun t14 => g_if (aB sh t14 .long x1) ((f_X8_ask sh F x0 1 x2 (m6.1 t8 (x1).toNatClampNeg) (m6.2.1 t10 (x1).toNatClampNeg) (m6.2.1 t12 (x1).toNatClampNeg) (m6.2.1 t14 (x1).toNatClampNeg) m6).bind (fun m16 => some m16)))))))))) else (some m6))))))) else (if x1 = 0 then (b_X8_visible_67 sh F x0 y0 x0 m) else (g_if (oB sh x0 8) (if (m.1 x0 67) = 0 then (b_X8_visible_72 sh F x0 y0 0 x0 m) else (b_X8_visible_67 sh F x0 y0 x0 m))))
set_option maxRecDepth 100000 in
set_option maxHeartbeats 4000000 in
theorem tb_X8_visible_46 {X : gX} {w : gW} {rm : gM} (C : gC X w K_X8_visible 6 RX8 1) (hr : X.2.2.2.2.2.2.2.2.1.sig.returnType = none) {F : Nat} {x0 : Nat} {x1 : Int32} {x2 : Int32} {x3 : Int32} {y0 : Int64} {m : gM} (h : b_X8_visible_46 w.2.2.2.2.1 F x0 x1 x2 x3 y0 m = some rm) : gV X w 0 0 (gR X w none rm) 6 46 [(0, .ref x0), (1, .int x1), (2, .int x2), (3, .int x3)] [.long y0] m := by
  unfold b_X8_visible_46 at h
  refine v_lstore (pc := 46) (lv' := [(4, .long y0), (0, .ref x0), (1, .int x1), (2, .int x2), (3, .int x3)]) C 28 rfl (by decide) rfl ?_
  refine v_lload (pc := 48) C 29 0 rfl rfl ?_
  refine v_lconst (pc := 50) C 30 0 rfl (by decide) ?_
  refine v_lcmp (pc := 51) C 31 rfl ?_
  refine v_lif_eq (pc := 52) C 32 82 rfl (by decide) (fun c1 => ?_) (fun c1 => ?_)
  · replace h := g_ifT c1 h
    refine v_aload_n (pc := 82) C 47 1 rfl rfl rfl ?_
    obtain ⟨o2, h⟩ := g_okk h
    obtain ⟨t3, qt3, h⟩ := g_bd h
    refine v_getR (pc := 83) C 48 rfl lf_ScopeGraphModel_110 (g_oB o2) rfl qt3 ?_
    refine v_iload_n (pc := 86) C 49 2 rfl rfl rfl ?_
    refine v_iconst (pc := 87) C 50 1 rfl (by decide) ?_
    obtain ⟨b4, h⟩ := g_okk h
    refine v_iast' (pc := 88) C 51 rfl b4 ?_
    refine v_topM (fun m5 em5 => ?_)
    replace h := g_nm h em5
    refine v_aload_n (pc := 89) C 52 1 rfl rfl rfl ?_
    refine v_lconst (pc := 90) C 53 0 rfl (by decide) ?_
    refine v_putL (pc := 91) C 54 rfl lf_ScopeGraphModel_324 (g_oB o2) rfl ?_
    refine v_topM (fun m6 em6 => ?_)
    replace h := g_nm h em6
    refine v_iload_n (pc := 94) C 55 4 rfl rfl rfl ?_
    refine v_if_ne (pc := 95) C 56 128 rfl (by decide) (fun c7 => ?_) (fun c7 => ?_)
    · replace h := g_ifF c7 h
      cases g_s1' h
      exact v_vret (pc := 128) C 77 rfl hr
    · replace h := g_ifT c7 h
      refine v_aload_n (pc := 98) C 57 1 rfl rfl rfl ?_
      refine v_iconst (pc := 99) C 58 1 rfl (by decide) ?_
      refine v_iload_n (pc := 100) C 59 3 rfl rfl rfl ?_
      refine v_aload_n (pc := 101) C 60 1 rfl rfl rfl ?_
      obtain ⟨t8, qt8, h⟩ := g_bd h
      refine v_getR (pc := 102) C 61 rfl lf_ScopeGraphModel_116 (g_oB o2) rfl qt8 ?_
      refine v_iload_n (pc := 105) C 62 2 rfl rfl rfl ?_
      obtain ⟨b9, h⟩ := g_okk h
      refine v_iald' (pc := 106) C 63 rfl b9 ?_
      refine v_aload_n (pc := 107) C 64 1 rfl rfl rfl ?_
      obtain ⟨t10, qt10, h⟩ := g_bd h
      refine v_getR (pc := 108) C 65 rfl lf_ScopeGraphModel_119 (g_oB o2) rfl qt10 ?_
      refine v_iload_n (pc := 111) C 66 2 rfl rfl rfl ?_
      obtain ⟨b11, h⟩ := g_okk h
      refine v_lald' (pc := 112) C 67 rfl b11 ?_
      refine v_aload_n (pc := 113) C 68 1 rfl rfl rfl ?_
      obtain ⟨t12, qt12, h⟩ := g_bd h
      refine v_getR (pc := 114) C 69 rfl lf_ScopeGraphModel_123 (g_oB o2) rfl qt12 ?_
      refine v_iload_n (pc := 117) C 70 2 rfl rfl rfl ?_
      obtain ⟨b13, h⟩ := g_okk h
      refine v_lald' (pc := 118) C 71 rfl b13 ?_
      refine v_aload_n (pc := 119) C 72 1 rfl rfl rfl ?_
      obtain ⟨t14, qt14, h⟩ := g_bd h
      refine v_getR (pc := 120) C 73 rfl lf_ScopeGraphModel_126 (g_oB o2) rfl qt14 ?_
      refine v_iload_n (pc := 123) C 74 2 rfl rfl rfl ?_
      obtain ⟨b15, h⟩ := g_okk h
      refine v_lald' (pc := 124) C 75 rfl b15 ?_
      obtain ⟨m16, qm16, h⟩ := g_bd h
      refine v_callV (pc := 125) C 76 rfl mf_X8_ask clX8 rfl im_X8_ask lm_ScopeGraphModel_347 (c_X8_ask C.2.2.2.2.2.2.2.2.2.2.2 qm16) (by decide) rfl (g_oB o2) (Nat.le_of_ble_eq_true rfl) ⟨Nat.zero_le _, Nat.zero_le _⟩ rfl ?_
      change gV X w 0 0 (gR X w none rm) 6 128 [(4, .long y0), (0, .ref x0), (1, .int x1), (2, .int x2), (3, .int x3)] [] m16
      cases g_s1' h
      exact v_vret (pc := 128) C 77 rfl hr
  · replace h := g_ifF c1 h
    refine v_aload_n (pc := 55) C 33 1 rfl rfl rfl ?_
    refine v_iload_n (pc := 56) C 34 2 rfl rfl rfl ?_
    refine v_if_eq (pc := 57) C 35 67 rfl (by decide) (fun c18 => ?_) (fun c18 => ?_)
    · replace h := g_ifT c18 h
      refine v_sub [(0, .ref x0), (4, .long y0)] [1, 0] rfl ?_
      exact tb_X8_visible_67 (F := F) C hr h
    · replace h := g_ifF c18 h
      refine v_aload_n (pc := 60) C 36 1 rfl rfl rfl ?_
      obtain ⟨o19, h⟩ := g_okk h
      refine v_getI (pc := 61) C 37 rfl lf_ScopeGraphModel_331.get (g_oB o19) rfl ?_
      refine v_if_eq (pc := 64) C 38 71 rfl (by decide) (fun c20 => ?_) (fun c20 => ?_)
      · replace h := g_ifT c20 h
        refine v_iconst (pc := 71) C 41 0 rfl (by decide) ?_
        refine v_sub [(0, .ref x0), (4, .long y0)] [1, 0] rfl ?_
        exact tb_X8_visible_72 (F := F) C hr h
      · replace h := g_ifF c20 h
        refine v_sub [(0, .ref x0), (4, .long y0)] [1, 0] rfl ?_
        exact tb_X8_visible_67 (F := F) C hr h
def f_X8_visible (sh : List gS) (F : Nat) (x0 : Nat) (x1 : Int32) (m : gM) : Option (gM) :=
  g_if (oB sh x0 8) ((m.2.2 x0 56).bind (fun t2 => g_if (aB sh t2 .int x1) (nm (m.1 t2 (x1).toNatClampNeg) (fun v4 => (m.2.2 x0 60).bind (fun t5 => g_if (aB sh t5 .long x1) ((f_X8_has sh F (m.2.1 t5 (x1).toNatClampNeg) v4 m).bind (fun q9 => nm q9.1 (fun r8 => nm q9.2 (fun m7 => (m7.2.2 x0 55).bind (fun t10 => g_if (aB sh t10 .int x1) (if (m7.1 t10 (x1).toNatClampNeg) = 0 then (if r8 = 0 then ((m7.2.2 x0 57).bind (fun t32 => g_if (aB sh t32 .int x1) ((f_X8_here sh F x0 v4 (m7.1 t32 (x1).toNatClampNeg) m7).bind (fun q36 => nm q36.1 (fun r35 => nm q36.2 (fun m34 => b_X8_visible_46 sh F x0 x1 v4 r8 r35 m34)))))) else (b_X8_visible_46 sh F x0 x1 v4 r8 0 m7)) else (if (m7.2.1 x0 65) = (0 : Int64) then (if r8 = 0 then ((m7.2.2 x0 8).bind (fun t15 => g_if (aB sh t15 .int v4) (if 0 ≤ (m7.1 t15 (v4).toNatClampNeg) then ((m7.2.2 x0 60).bind (fun t18 => g_if (aB sh t18 .long x1) (g_if (aB sh t18 .long x1) (nm (gsL m7 t18 (x1).toNatClampNeg ((m7.2.1 t18 (x1).toNatClampNeg) ||| ((1 : Int64) <<< (v4.toInt64 &&& 63)))) (fun m21 => (m21.2.2 x0 56).bind (fun t22 => (m21.2.2 x0 8).bind (fun t23 => g_if (aB sh t23 .int v4) (g_if (aB sh t22 .int x1) (nm (gsI m21 t22 (x1).toNatClampNeg (m21.1 t23 (v4).toNatClampNeg)) (fun m26 => (m26.2.2 x0 55).bind (fun t27 => g_if (aB sh t27 .int x1) (nm (gsI m26 t27 (x1).toNatClampNeg 0) (fun m29 => if x1 = 0 then (b_X8_visible_205 sh F 1 (m29.1 x0 66) x0 m29) else (b_X8_visible_205 sh F 0 (m29.1 x0 66) x0 m29)))))))))))))) else (b_X8_visible_151 sh F x0 m7)))) else (b_X8_visible_151 sh F x0 m7)) else (b_X8_visible_151 sh F x0 m7)))))))))))))
set_option maxRecDepth 100000 in
set_option maxHeartbeats 4000000 in
theorem tf_X8_visible {X : gX} {w : gW} {rm : gM} (C : gC X w K_X8_visible 6 RX8 1) (hr : X.2.2.2.2.2.2.2.2.1.sig.returnType = none) {F : Nat} {x0 : Nat} {x1 : Int32} {m : gM} (h : f_X8_visible w.2.2.2.2.1 F x0 x1 m = some rm) : gV X w 0 0 (gR X w none rm) 6 0 [(0, .ref x0), (1, .int x1)] [] m := by
  unfold f_X8_visible at h
  refine v_aload_n (pc := 0) C 0 0 rfl rfl rfl ?_
  obtain ⟨o1, h⟩ := g_okk h
  obtain ⟨t2, qt2, h⟩ := g_bd h
  refine v_getR (pc := 1) C 1 rfl lf_ScopeGraphModel_113 (g_oB o1) rfl qt2 ?_
  refine v_iload_n (pc := 4) C 2 1 rfl rfl rfl ?_
  obtain ⟨b3, h⟩ := g_okk h
  refine v_iald' (pc := 5) C 3 rfl b3 ?_
  refine v_topI (fun v4 ev4 => ?_)
  replace h := g_nm h ev4
  refine v_istore_n (pc := 6) (lv' := [(2, .int v4), (0, .ref x0), (1, .int x1)]) C 4 rfl rfl (by decide) rfl ?_
  refine v_aload_n (pc := 7) C 5 1 rfl rfl rfl ?_
  obtain ⟨t5, qt5, h⟩ := g_bd h
  refine v_getR (pc := 8) C 6 rfl lf_ScopeGraphModel_126 (g_oB o1) rfl qt5 ?_
  refine v_iload_n (pc := 11) C 7 2 rfl rfl rfl ?_
  obtain ⟨b6, h⟩ := g_okk h
  refine v_lald' (pc := 12) C 8 rfl b6 ?_
  refine v_iload_n (pc := 13) C 9 0 rfl rfl rfl ?_
  obtain ⟨⟨r8, m7⟩, qm7, h⟩ := g_bd h
  replace h := g_nm (y := m7) (g_nm (y := r8) h rfl) rfl
  refine v_callS (pc := 14) C 10 rfl mf_X8_has sm_X8_has lm_ScopeGraphModel_351 (c_X8_has C.2.2.2.2.2.2.2.2.2.2.2 qm7) (by decide) rfl (Nat.le_of_ble_eq_true rfl) ⟨Nat.zero_le _, Nat.zero_le _⟩ rfl ?_
  change gV X w 0 0 (gR X w none rm) 6 17 [(2, .int v4), (0, .ref x0), (1, .int x1)] [.int r8] m7
  refine v_istore_n (pc := 17) (lv' := [(3, .int r8), (2, .int v4), (0, .ref x0), (1, .int x1)]) C 11 rfl rfl (by decide) rfl ?_
  refine v_aload_n (pc := 18) C 12 2 rfl rfl rfl ?_
  obtain ⟨t10, qt10, h⟩ := g_bd h
  refine v_getR (pc := 19) C 13 rfl lf_ScopeGraphModel_110 (g_oB o1) rfl qt10 ?_
  refine v_iload_n (pc := 22) C 14 3 rfl rfl rfl ?_
  obtain ⟨b11, h⟩ := g_okk h
  refine v_iald' (pc := 23) C 15 rfl b11 ?_
  refine v_if_ne (pc := 24) C 16 129 rfl (by decide) (fun c12 => ?_) (fun c12 => ?_)
  · replace h := g_ifF c12 h
    refine v_aload_n (pc := 129) C 78 2 rfl rfl rfl ?_
    refine v_getL (pc := 130) C 79 rfl lf_ScopeGraphModel_324.get (g_oB o1) rfl ?_
    refine v_lconst (pc := 133) C 80 0 rfl (by decide) ?_
    refine v_lcmp (pc := 134) C 81 rfl ?_
    refine v_lif_ne (pc := 135) C 82 151 rfl (by decide) (fun c13 => ?_) (fun c13 => ?_)
    · replace h := g_ifF c13 h
      refine v_sub [(0, .ref x0)] [2] rfl ?_
      exact tb_X8_visible_151 (F := F) C hr h
    · replace h := g_ifT c13 h
      refine v_iload_n (pc := 138) C 83 0 rfl rfl rfl ?_
      refine v_if_ne (pc := 139) C 84 151 rfl (by decide) (fun c14 => ?_) (fun c14 => ?_)
      · replace h := g_ifF c14 h
        refine v_sub [(0, .ref x0)] [2] rfl ?_
        exact tb_X8_visible_151 (F := F) C hr h
      · replace h := g_ifT c14 h
        refine v_aload_n (pc := 142) C 85 2 rfl rfl rfl ?_
        obtain ⟨t15, qt15, h⟩ := g_bd h
        refine v_getR (pc := 143) C 86 rfl lf_ScopeGraphModel_19 (g_oB o1) rfl qt15 ?_
        refine v_iload_n (pc := 146) C 87 1 rfl rfl rfl ?_
        obtain ⟨b16, h⟩ := g_okk h
        refine v_iald' (pc := 147) C 88 rfl b16 ?_
        refine v_if_ge (pc := 148) C 89 160 rfl (by decide) (fun c17 => ?_) (fun c17 => ?_)
        · replace h := g_ifT c17 h
          refine v_aload_n (pc := 160) C 95 2 rfl rfl rfl ?_
          obtain ⟨t18, qt18, h⟩ := g_bd h
          refine v_getR (pc := 161) C 96 rfl lf_ScopeGraphModel_126 (g_oB o1) rfl qt18 ?_
          refine v_iload_n (pc := 164) C 97 3 rfl rfl rfl ?_
          refine v_dup2 (pc := 165) C 98 rfl rfl rfl ?_
          obtain ⟨b19, h⟩ := g_okk h
          refine v_lald' (pc := 166) C 99 rfl b19 ?_
          refine v_lconst (pc := 167) C 100 1 rfl (by decide) ?_
          refine v_iload_n (pc := 168) C 101 1 rfl rfl rfl ?_
          refine v_lshl (pc := 169) C 102 rfl ?_
          refine v_lor (pc := 170) C 103 rfl ?_
          obtain ⟨b20, h⟩ := g_okk h
          refine v_last' (pc := 171) C 104 rfl b20 ?_
          refine v_topM (fun m21 em21 => ?_)
          replace h := g_nm h em21
          refine v_aload_n (pc := 172) C 105 2 rfl rfl rfl ?_
          obtain ⟨t22, qt22, h⟩ := g_bd h
          refine v_getR (pc := 173) C 106 rfl lf_ScopeGraphModel_113 (g_oB o1) rfl qt22 ?_
          refine v_iload_n (pc := 176) C 107 3 rfl rfl rfl ?_
          refine v_aload_n (pc := 177) C 108 2 rfl rfl rfl ?_
          obtain ⟨t23, qt23, h⟩ := g_bd h
          refine v_getR (pc := 178) C 109 rfl lf_ScopeGraphModel_19 (g_oB o1) rfl qt23 ?_
          refine v_iload_n (pc := 181) C 110 1 rfl rfl rfl ?_
          obtain ⟨b24, h⟩ := g_okk h
          refine v_iald' (pc := 182) C 111 rfl b24 ?_
          obtain ⟨b25, h⟩ := g_okk h
          refine v_iast' (pc := 183) C 112 rfl b25 ?_
          refine v_topM (fun m26 em26 => ?_)
          replace h := g_nm h em26
          refine v_aload_n (pc := 184) C 113 2 rfl rfl rfl ?_
          obtain ⟨t27, qt27, h⟩ := g_bd h
          refine v_getR (pc := 185) C 114 rfl lf_ScopeGraphModel_110 (g_oB o1) rfl qt27 ?_
          refine v_iload_n (pc := 188) C 115 3 rfl rfl rfl ?_
          refine v_iconst (pc := 189) C 116 0 rfl (by decide) ?_
          obtain ⟨b28, h⟩ := g_okk h
          refine v_iast' (pc := 190) C 117 rfl b28 ?_
          refine v_topM (fun m29 em29 => ?_)
          replace h := g_nm h em29
          refine v_aload_n (pc := 191) C 118 2 rfl rfl rfl ?_
          refine v_dup (pc := 192) C 119 rfl rfl ?_
          refine v_getI (pc := 193) C 120 rfl lf_ScopeGraphModel_328.get (g_oB o1) rfl ?_
          refine v_iload_n (pc := 196) C 121 3 rfl rfl rfl ?_
          refine v_if_ne (pc := 197) C 122 204 rfl (by decide) (fun c30 => ?_) (fun c30 => ?_)
          · replace h := g_ifF c30 h
            refine v_iconst (pc := 204) C 125 0 rfl (by decide) ?_
            refine v_sub [] [] rfl ?_
            exact tb_X8_visible_205 (F := F) C hr h
          · replace h := g_ifT c30 h
            refine v_iconst (pc := 200) C 123 1 rfl (by decide) ?_
            refine v_goto (pc := 201) C 124 205 rfl (by decide) ?_
            refine v_sub [] [] rfl ?_
            exact tb_X8_visible_205 (F := F) C hr h
        · replace h := g_ifF c17 h
          refine v_sub [(0, .ref x0)] [2] rfl ?_
          exact tb_X8_visible_151 (F := F) C hr h
  · replace h := g_ifT c12 h
    refine v_iload_n (pc := 27) C 17 0 rfl rfl rfl ?_
    refine v_if_eq (pc := 28) C 18 35 rfl (by decide) (fun c31 => ?_) (fun c31 => ?_)
    · replace h := g_ifT c31 h
      refine v_aload_n (pc := 35) C 21 2 rfl rfl rfl ?_
      refine v_iload_n (pc := 36) C 22 1 rfl rfl rfl ?_
      refine v_aload_n (pc := 37) C 23 2 rfl rfl rfl ?_
      obtain ⟨t32, qt32, h⟩ := g_bd h
      refine v_getR (pc := 38) C 24 rfl lf_ScopeGraphModel_116 (g_oB o1) rfl qt32 ?_
      refine v_iload_n (pc := 41) C 25 3 rfl rfl rfl ?_
      obtain ⟨b33, h⟩ := g_okk h
      refine v_iald' (pc := 42) C 26 rfl b33 ?_
      obtain ⟨⟨r35, m34⟩, qm34, h⟩ := g_bd h
      replace h := g_nm (y := m34) (g_nm (y := r35) h rfl) rfl
      refine v_callV (pc := 43) C 27 rfl mf_X8_here clX8 rfl im_X8_here lm_ScopeGraphModel_355 (c_X8_here C.2.2.2.2.2.2.2.2.2.2.2 qm34) (by decide) rfl (g_oB o1) (Nat.le_of_ble_eq_true rfl) ⟨Nat.zero_le _, Nat.zero_le _⟩ rfl ?_
      change gV X w 0 0 (gR X w none rm) 6 46 [(3, .int r8), (2, .int v4), (0, .ref x0), (1, .int x1)] [.long r35] m34
      refine v_sub [(0, .ref x0), (1, .int x1), (2, .int v4), (3, .int r8)] [2, 3, 1, 0] rfl ?_
      exact tb_X8_visible_46 (F := F) C hr h
    · replace h := g_ifF c31 h
      refine v_lconst (pc := 31) C 19 0 rfl (by decide) ?_
      refine v_goto (pc := 32) C 20 46 rfl (by decide) ?_
      refine v_sub [(0, .ref x0), (1, .int x1), (2, .int v4), (3, .int r8)] [2, 3, 1, 0] rfl ?_
      exact tb_X8_visible_46 (F := F) C hr h
theorem c_X8_visible {l : Launch} {w : gW} {rm : gM} (hJ : gJok w) {F : Nat} {x0 : Nat} {x1 : Int32} {m : gM} (h : f_X8_visible w.2.2.2.2.1 F x0 x1 m = some rm) : gMet l 1 yX8_visible cX8_visible 6 none w [.ref x0, .int x1] m none rm :=
  gMet.of hJ mf_X8_visible dk_X8_visible (Nat.le_of_ble_eq_true rfl) (fun X _ C hr => tf_X8_visible (F := F) C hr h)
def b_X8_mean_76 (sh : List gS) (F : Nat) (k22 : Nat → gM → Option (gM)) (x0 : Nat) (m : gM) : Option (gM) :=
  k22 x0 m
set_option maxRecDepth 100000 in
set_option maxHeartbeats 4000000 in
theorem tb_X8_mean_76 {X : gX} {w : gW} {rm : gM} (C : gC X w K_X8_mean 3 RX8 3) (hr : X.2.2.2.2.2.2.2.2.1.sig.returnType = none) {F : Nat} {k22 : Nat → gM → Option (gM)} (hk22 : ∀ (z0 : Nat) (m : gM), k22 z0 m = some rm → gV X w 0 0 (gR X w none rm) 3 22 [(0, .ref z0)] [] m) {x0 : Nat} {m : gM} (h : b_X8_mean_76 w.2.2.2.2.1 F k22 x0 m = some rm) : gV X w 0 0 (gR X w none rm) 3 76 [(0, .ref x0)] [] m := by
  unfold b_X8_mean_76 at h
  refine v_goto (pc := 76) C 44 22 rfl (by decide) ?_
  refine v_sub [(0, .ref x0)] [0] rfl ?_
  exact hk22 _ _ h
def b_X8_mean_22 (sh : List gS) (F : Nat) (k22 : Nat → gM → Option (gM)) (x0 : Nat) (m : gM) : Option (gM) :=
  g_if (oB sh x0 8) (if (m.1 x0 64) ≤ 0 then (some m) else (nm ((m.1 x0 64) - (1 : Int32)) (fun v3 => (m.2.2 x0 54).bind (fun t4 => g_if (aB sh t4 .int v3) (if (m.1 t4 (v3).toNatClampNeg) = 0 then ((f_X8_visible sh F x0 v3 m).bind (fun m14 => b_X8_mean_76 sh F k22 x0 m14)) else ((m.2.2 x0 54).bind (fun t7 => g_if (aB sh t7 .int v3) (if (m.1 t7 (v3).toNatClampNeg) = (1 : Int32) then ((f_X8_imports sh F x0 v3 m).bind (fun m12 => b_X8_mean_76 sh F k22 x0 m12)) else ((f_X8_local sh F x0 v3 m).bind (fun m10 => b_X8_mean_76 sh F k22 x0 m10))))))))))
set_option maxRecDepth 100000 in
set_option maxHeartbeats 4000000 in
theorem tb_X8_mean_22 {X : gX} {w : gW} {rm : gM} (C : gC X w K_X8_mean 3 RX8 3) (hr : X.2.2.2.2.2.2.2.2.1.sig.returnType = none) {F : Nat} {k22 : Nat → gM → Option (gM)} (hk22 : ∀ (z0 : Nat) (m : gM), k22 z0 m = some rm → gV X w 0 0 (gR X w none rm) 3 22 [(0, .ref z0)] [] m) {x0 : Nat} {m : gM} (h : b_X8_mean_22 w.2.2.2.2.1 F k22 x0 m = some rm) : gV X w 0 0 (gR X w none rm) 3 22 [(0, .ref x0)] [] m := by
  unfold b_X8_mean_22 at h
  refine v_aload_n (pc := 22) C 14 0 rfl rfl rfl ?_
  obtain ⟨o1, h⟩ := g_okk h
  refine v_getI (pc := 23) C 15 rfl lf_ScopeGraphModel_321.get (g_oB o1) rfl ?_
  refine v_if_le (pc := 26) C 16 79 rfl (by decide) (fun c2 => ?_) (fun c2 => ?_)
  · replace h := g_ifT c2 h
    cases g_s1' h
    exact v_vret (pc := 79) C 45 rfl hr
  · replace h := g_ifF c2 h
    refine v_aload_n (pc := 29) C 17 0 rfl rfl rfl ?_
    refine v_getI (pc := 30) C 18 rfl lf_ScopeGraphModel_321.get (g_oB o1) rfl ?_
    refine v_iconst (pc := 33) C 19 1 rfl (by decide) ?_
    refine v_isub (pc := 34) C 20 rfl ?_
    refine v_topI (fun v3 ev3 => ?_)
    replace h := g_nm h ev3
    refine v_istore_n (pc := 35) (lv' := [(2, .int v3), (0, .ref x0)]) C 21 rfl rfl (by decide) rfl ?_
    refine v_aload_n (pc := 36) C 22 1 rfl rfl rfl ?_
    obtain ⟨t4, qt4, h⟩ := g_bd h
    refine v_getR (pc := 37) C 23 rfl lf_ScopeGraphModel_107 (g_oB o1) rfl qt4 ?_
    refine v_iload_n (pc := 40) C 24 0 rfl rfl rfl ?_
    obtain ⟨b5, h⟩ := g_okk h
    refine v_iald' (pc := 41) C 25 rfl b5 ?_
    refine v_if_ne (pc := 42) C 26 53 rfl (by decide) (fun c6 => ?_) (fun c6 => ?_)
    · replace h := g_ifF c6 h
      refine v_aload_n (pc := 53) C 31 1 rfl rfl rfl ?_
      obtain ⟨t7, qt7, h⟩ := g_bd h
      refine v_getR (pc := 54) C 32 rfl lf_ScopeGraphModel_107 (g_oB o1) rfl qt7 ?_
      refine v_iload_n (pc := 57) C 33 0 rfl rfl rfl ?_
      obtain ⟨b8, h⟩ := g_okk h
      refine v_iald' (pc := 58) C 34 rfl b8 ?_
      refine v_iconst (pc := 59) C 35 1 rfl (by decide) ?_
      refine v_icmp_ne (pc := 60) C 36 71 rfl (by decide) (fun c9 => ?_) (fun c9 => ?_)
      · replace h := g_ifF c9 h
        refine v_aload_n (pc := 71) C 41 1 rfl rfl rfl ?_
        refine v_iload_n (pc := 72) C 42 0 rfl rfl rfl ?_
        obtain ⟨m10, qm10, h⟩ := g_bd h
        refine v_callV (pc := 73) C 43 rfl mf_X8_local clX8 rfl im_X8_local lm_ScopeGraphModel_344 (c_X8_local C.2.2.2.2.2.2.2.2.2.2.2 qm10) (by decide) rfl (g_oB o1) (Nat.le_of_ble_eq_true rfl) ⟨Nat.zero_le _, Nat.zero_le _⟩ rfl ?_
        change gV X w 0 0 (gR X w none rm) 3 76 [(2, .int v3), (0, .ref x0)] [] m10
        refine v_sub [(0, .ref x0)] [1] rfl ?_
        exact tb_X8_mean_76 (F := F) C hr hk22 h
      · replace h := g_ifT c9 h
        refine v_aload_n (pc := 63) C 37 1 rfl rfl rfl ?_
        refine v_iload_n (pc := 64) C 38 0 rfl rfl rfl ?_
        obtain ⟨m12, qm12, h⟩ := g_bd h
        refine v_callV (pc := 65) C 39 rfl mf_X8_imports clX8 rfl im_X8_imports lm_ScopeGraphModel_341 (c_X8_imports C.2.2.2.2.2.2.2.2.2.2.2 qm12) (by decide) rfl (g_oB o1) (Nat.le_of_ble_eq_true rfl) ⟨Nat.zero_le _, Nat.zero_le _⟩ rfl ?_
        change gV X w 0 0 (gR X w none rm) 3 68 [(2, .int v3), (0, .ref x0)] [] m12
        refine v_goto (pc := 68) C 40 76 rfl (by decide) ?_
        refine v_sub [(0, .ref x0)] [1] rfl ?_
        exact tb_X8_mean_76 (F := F) C hr hk22 h
    · replace h := g_ifT c6 h
      refine v_aload_n (pc := 45) C 27 1 rfl rfl rfl ?_
      refine v_iload_n (pc := 46) C 28 0 rfl rfl rfl ?_
      obtain ⟨m14, qm14, h⟩ := g_bd h
      refine v_callV (pc := 47) C 29 rfl mf_X8_visible clX8 rfl im_X8_visible lm_ScopeGraphModel_338 (c_X8_visible C.2.2.2.2.2.2.2.2.2.2.2 qm14) (by decide) rfl (g_oB o1) (Nat.le_of_ble_eq_true rfl) ⟨Nat.zero_le _, Nat.zero_le _⟩ rfl ?_
      change gV X w 0 0 (gR X w none rm) 3 50 [(2, .int v3), (0, .ref x0)] [] m14
      refine v_goto (pc := 50) C 30 76 rfl (by decide) ?_
      refine v_sub [(0, .ref x0)] [1] rfl ?_
      exact tb_X8_mean_76 (F := F) C hr hk22 h
def l_X8_mean_22 (sh : List gS) (F : Nat) : Nat → Nat → gM → Option (gM)
  | 0 => fun _ _ => none
  | n + 1 => fun x0 m => b_X8_mean_22 sh F (l_X8_mean_22 sh F n) x0 m
theorem tl_X8_mean_22 {X : gX} {w : gW} {rm : gM} (C : gC X w K_X8_mean 3 RX8 3) (hr : X.2.2.2.2.2.2.2.2.1.sig.returnType = none) {F : Nat} : ∀ (n : Nat) (x0 : Nat) (m : gM), l_X8_mean_22 w.2.2.2.2.1 F n x0 m = some rm → gV X w 0 0 (gR X w none rm) 3 22 [(0, .ref x0)] [] m := by
  intro n
  induction n with
  | zero => intro x0 m h; cases h
  | succ n ih => intro x0 m h; exact tb_X8_mean_22 (F := F) C hr ih h
def f_X8_mean (sh : List gS) (F : Nat) (x0 : Nat) (x1 : Int32) (m : gM) : Option (gM) :=
  g_if (oB sh x0 8) (nm (gsI m x0 64 0) (fun m2 => nm (gsI m2 x0 66 0) (fun m3 => nm (gsI m3 x0 67 0) (fun m4 => (f_X8_askMeans sh F x0 x1 0 0 m4).bind (fun m5 => l_X8_mean_22 sh F F x0 m5)))))
set_option maxRecDepth 100000 in
set_option maxHeartbeats 4000000 in
theorem tf_X8_mean {X : gX} {w : gW} {rm : gM} (C : gC X w K_X8_mean 3 RX8 3) (hr : X.2.2.2.2.2.2.2.2.1.sig.returnType = none) {F : Nat} {x0 : Nat} {x1 : Int32} {m : gM} (h : f_X8_mean w.2.2.2.2.1 F x0 x1 m = some rm) : gV X w 0 0 (gR X w none rm) 3 0 [(0, .ref x0), (1, .int x1)] [] m := by
  unfold f_X8_mean at h
  refine v_aload_n (pc := 0) C 0 0 rfl rfl rfl ?_
  refine v_iconst (pc := 1) C 1 0 rfl (by decide) ?_
  obtain ⟨o1, h⟩ := g_okk h
  refine v_putI (pc := 2) C 2 rfl lf_ScopeGraphModel_321 (g_oB o1) rfl ?_
  refine v_topM (fun m2 em2 => ?_)
  replace h := g_nm h em2
  refine v_aload_n (pc := 5) C 3 0 rfl rfl rfl ?_
  refine v_iconst (pc := 6) C 4 0 rfl (by decide) ?_
  refine v_putI (pc := 7) C 5 rfl lf_ScopeGraphModel_328 (g_oB o1) rfl ?_
  refine v_topM (fun m3 em3 => ?_)
  replace h := g_nm h em3
  refine v_aload_n (pc := 10) C 6 0 rfl rfl rfl ?_
  refine v_iconst (pc := 11) C 7 0 rfl (by decide) ?_
  refine v_putZ (pc := 12) C 8 rfl lf_ScopeGraphModel_331 (g_oB o1) rfl (by decide) ?_
  refine v_topM (fun m4 em4 => ?_)
  replace h := g_nm h em4
  refine v_aload_n (pc := 15) C 9 0 rfl rfl rfl ?_
  refine v_iload_n (pc := 16) C 10 1 rfl rfl rfl ?_
  refine v_lconst (pc := 17) C 11 0 rfl (by decide) ?_
  refine v_lconst (pc := 18) C 12 0 rfl (by decide) ?_
  obtain ⟨m5, qm5, h⟩ := g_bd h
  refine v_callV (pc := 19) C 13 rfl mf_X8_askMeans clX8 rfl im_X8_askMeans lm_ScopeGraphModel_334 (c_X8_askMeans C.2.2.2.2.2.2.2.2.2.2.2 qm5) (by decide) rfl (g_oB o1) (Nat.le_of_ble_eq_true rfl) ⟨Nat.zero_le _, Nat.zero_le _⟩ rfl ?_
  change gV X w 0 0 (gR X w none rm) 3 22 [(0, .ref x0), (1, .int x1)] [] m5
  refine v_sub [(0, .ref x0)] [0] rfl ?_
  exact tl_X8_mean_22 (F := F) C hr _ _ _ h
theorem c_X8_mean {l : Launch} {w : gW} {rm : gM} (hJ : gJok w) {F : Nat} {x0 : Nat} {x1 : Int32} {m : gM} (h : f_X8_mean w.2.2.2.2.1 F x0 x1 m = some rm) : gMet l 3 yX8_mean cX8_mean 3 none w [.ref x0, .int x1] m none rm :=
  gMet.of hJ mf_X8_mean dk_X8_mean (Nat.le_of_ble_eq_true rfl) (fun X _ C hr => tf_X8_mean (F := F) C hr h)
def b_X8_meanAll_2 (sh : List gS) (F : Nat) (k2 : Nat → Int32 → gM → Option (gM)) (x0 : Nat) (x1 : Int32) (m : gM) : Option (gM) :=
  g_if (oB sh x0 8) (if (m.1 x0 20) ≤ x1 then (some m) else ((f_X8_mean sh F x0 x1 m).bind (fun m3 => (m3.2.2 x0 68).bind (fun t5 => g_if (aB sh t5 .long x1) (nm (gsL m3 t5 (x1).toNatClampNeg (m3.2.1 x0 65)) (fun m7 => (m7.2.2 x0 69).bind (fun t8 => g_if (aB sh t8 .int x1) (nm (gsI m7 t8 (x1).toNatClampNeg (m7.1 x0 66)) (fun m10 => (m10.2.2 x0 70).bind (fun t11 => g_if (aB sh t11 .boolean x1) (nm (gsI m10 t11 (x1).toNatClampNeg (vp_nar .boolean (m10.1 x0 67))) (fun m13 => nm (x1 + Int32.ofInt 1) (fun v14 => k2 x0 v14 m13)))))))))))))
set_option maxRecDepth 100000 in
set_option maxHeartbeats 4000000 in
theorem tb_X8_meanAll_2 {X : gX} {w : gW} {rm : gM} (C : gC X w K_X8_meanAll 2 RX8 4) (hr : X.2.2.2.2.2.2.2.2.1.sig.returnType = none) {F : Nat} {k2 : Nat → Int32 → gM → Option (gM)} (hk2 : ∀ (z0 : Nat) (z1 : Int32) (m : gM), k2 z0 z1 m = some rm → gV X w 0 0 (gR X w none rm) 2 2 [(0, .ref z0), (1, .int z1)] [] m) {x0 : Nat} {x1 : Int32} {m : gM} (h : b_X8_meanAll_2 w.2.2.2.2.1 F k2 x0 x1 m = some rm) : gV X w 0 0 (gR X w none rm) 2 2 [(0, .ref x0), (1, .int x1)] [] m := by
  unfold b_X8_meanAll_2 at h
  refine v_iload_n (pc := 2) C 2 1 rfl rfl rfl ?_
  refine v_aload_n (pc := 3) C 3 0 rfl rfl rfl ?_
  obtain ⟨o1, h⟩ := g_okk h
  refine v_getI (pc := 4) C 4 rfl lf_ScopeGraphModel_223.get (g_oB o1) rfl ?_
  refine v_icmp_ge (pc := 7) C 5 51 rfl (by decide) (fun c2 => ?_) (fun c2 => ?_)
  · replace h := g_ifT c2 h
    cases g_s1' h
    exact v_vret (pc := 51) C 29 rfl hr
  · replace h := g_ifF c2 h
    refine v_aload_n (pc := 10) C 6 0 rfl rfl rfl ?_
    refine v_iload_n (pc := 11) C 7 1 rfl rfl rfl ?_
    obtain ⟨m3, qm3, h⟩ := g_bd h
    refine v_callV (pc := 12) C 8 rfl mf_X8_mean clX8 rfl im_X8_mean lm_ScopeGraphModel_365 (c_X8_mean C.2.2.2.2.2.2.2.2.2.2.2 qm3) (by decide) rfl (g_oB o1) (Nat.le_of_ble_eq_true rfl) ⟨Nat.zero_le _, Nat.zero_le _⟩ rfl ?_
    change gV X w 0 0 (gR X w none rm) 2 15 [(0, .ref x0), (1, .int x1)] [] m3
    refine v_aload_n (pc := 15) C 9 0 rfl rfl rfl ?_
    obtain ⟨t5, qt5, h⟩ := g_bd h
    refine v_getR (pc := 16) C 10 rfl lf_ScopeGraphModel_138 (g_oB o1) rfl qt5 ?_
    refine v_iload_n (pc := 19) C 11 1 rfl rfl rfl ?_
    refine v_aload_n (pc := 20) C 12 0 rfl rfl rfl ?_
    refine v_getL (pc := 21) C 13 rfl lf_ScopeGraphModel_324.get (g_oB o1) rfl ?_
    obtain ⟨b6, h⟩ := g_okk h
    refine v_last' (pc := 24) C 14 rfl b6 ?_
    refine v_topM (fun m7 em7 => ?_)
    replace h := g_nm h em7
    refine v_aload_n (pc := 25) C 15 0 rfl rfl rfl ?_
    obtain ⟨t8, qt8, h⟩ := g_bd h
    refine v_getR (pc := 26) C 16 rfl lf_ScopeGraphModel_141 (g_oB o1) rfl qt8 ?_
    refine v_iload_n (pc := 29) C 17 1 rfl rfl rfl ?_
    refine v_aload_n (pc := 30) C 18 0 rfl rfl rfl ?_
    refine v_getI (pc := 31) C 19 rfl lf_ScopeGraphModel_328.get (g_oB o1) rfl ?_
    obtain ⟨b9, h⟩ := g_okk h
    refine v_iast' (pc := 34) C 20 rfl b9 ?_
    refine v_topM (fun m10 em10 => ?_)
    replace h := g_nm h em10
    refine v_aload_n (pc := 35) C 21 0 rfl rfl rfl ?_
    obtain ⟨t11, qt11, h⟩ := g_bd h
    refine v_getR (pc := 36) C 22 rfl lf_ScopeGraphModel_144 (g_oB o1) rfl qt11 ?_
    refine v_iload_n (pc := 39) C 23 1 rfl rfl rfl ?_
    refine v_aload_n (pc := 40) C 24 0 rfl rfl rfl ?_
    refine v_getI (pc := 41) C 25 rfl lf_ScopeGraphModel_331.get (g_oB o1) rfl ?_
    obtain ⟨b12, h⟩ := g_okk h
    refine v_zast' (pc := 44) C 26 rfl b12 ?_
    refine v_topM (fun m13 em13 => ?_)
    replace h := g_nm h em13
    refine v_iincN (pc := 45) C 27 1 (fun v14 => [(1, .int v14), (0, .ref x0)]) rfl rfl (by decide) (fun _ => rfl) (fun v14 ev14 => ?_)
    replace h := g_nm h ev14
    refine v_goto (pc := 48) C 28 2 rfl (by decide) ?_
    refine v_sub [(0, .ref x0), (1, .int v14)] [1, 0] rfl ?_
    exact hk2 _ _ _ h
def l_X8_meanAll_2 (sh : List gS) (F : Nat) : Nat → Nat → Int32 → gM → Option (gM)
  | 0 => fun _ _ _ => none
  | n + 1 => fun x0 x1 m => b_X8_meanAll_2 sh F (l_X8_meanAll_2 sh F n) x0 x1 m
theorem tl_X8_meanAll_2 {X : gX} {w : gW} {rm : gM} (C : gC X w K_X8_meanAll 2 RX8 4) (hr : X.2.2.2.2.2.2.2.2.1.sig.returnType = none) {F : Nat} : ∀ (n : Nat) (x0 : Nat) (x1 : Int32) (m : gM), l_X8_meanAll_2 w.2.2.2.2.1 F n x0 x1 m = some rm → gV X w 0 0 (gR X w none rm) 2 2 [(0, .ref x0), (1, .int x1)] [] m := by
  intro n
  induction n with
  | zero => intro x0 x1 m h; cases h
  | succ n ih => intro x0 x1 m h; exact tb_X8_meanAll_2 (F := F) C hr ih h
def f_X8_meanAll (sh : List gS) (F : Nat) (x0 : Nat) (m : gM) : Option (gM) :=
  l_X8_meanAll_2 sh F F x0 0 m
set_option maxRecDepth 100000 in
set_option maxHeartbeats 4000000 in
theorem tf_X8_meanAll {X : gX} {w : gW} {rm : gM} (C : gC X w K_X8_meanAll 2 RX8 4) (hr : X.2.2.2.2.2.2.2.2.1.sig.returnType = none) {F : Nat} {x0 : Nat} {m : gM} (h : f_X8_meanAll w.2.2.2.2.1 F x0 m = some rm) : gV X w 0 0 (gR X w none rm) 2 0 [(0, .ref x0)] [] m := by
  unfold f_X8_meanAll at h
  refine v_iconst (pc := 0) C 0 0 rfl (by decide) ?_
  refine v_istore_n (pc := 1) (lv' := [(1, .int 0), (0, .ref x0)]) C 1 rfl rfl (by decide) rfl ?_
  refine v_sub [(0, .ref x0), (1, .int 0)] [1, 0] rfl ?_
  exact tl_X8_meanAll_2 (F := F) C hr _ _ _ _ h
theorem c_X8_meanAll {l : Launch} {w : gW} {rm : gM} (hJ : gJok w) {F : Nat} {x0 : Nat} {m : gM} (h : f_X8_meanAll w.2.2.2.2.1 F x0 m = some rm) : gMet l 4 yX8_meanAll cX8_meanAll 2 none w [.ref x0] m none rm :=
  gMet.of hJ mf_X8_meanAll dk_X8_meanAll (Nat.le_of_ble_eq_true rfl) (fun X _ C hr => tf_X8_meanAll (F := F) C hr h)
def b_X8_isSame_53 (sh : List gS) (F : Nat) (k16 : Nat → Int32 → Int32 → Int32 → Int32 → Int32 → gM → Option (Int32 × gM)) (x0 : Nat) (x1 : Int32) (x2 : Int32) (x3 : Int32) (x6 : Int32) (y0 : Int32) (m : gM) : Option (Int32 × gM) :=
  nm (x6 + Int32.ofInt 1) (fun v1 => k16 x0 x1 x2 x3 y0 v1 m)
set_option maxRecDepth 100000 in
set_option maxHeartbeats 4000000 in
theorem tb_X8_isSame_53 {X : gX} {w : gW} {rr : Int32} {rm : gM} (C : gC X w K_X8_isSame 7 RX8 0) (hr : X.2.2.2.2.2.2.2.2.1.sig.returnType = (some .boolean)) {F : Nat} {k16 : Nat → Int32 → Int32 → Int32 → Int32 → Int32 → gM → Option (Int32 × gM)} (hk16 : ∀ (z0 : Nat) (z1 : Int32) (z2 : Int32) (z3 : Int32) (z5 : Int32) (z6 : Int32) (m : gM), k16 z0 z1 z2 z3 z5 z6 m = some (rr, rm) → gV X w 0 0 (gR X w (some (.int rr)) rm) 7 16 [(0, .ref z0), (1, .int z1), (2, .int z2), (3, .int z3), (5, .int z5), (6, .int z6)] [] m) {x0 : Nat} {x1 : Int32} {x2 : Int32} {x3 : Int32} {x6 : Int32} {y0 : Int32} {m : gM} (h : b_X8_isSame_53 w.2.2.2.2.1 F k16 x0 x1 x2 x3 x6 y0 m = some (rr, rm)) : gV X w 0 0 (gR X w (some (.int rr)) rm) 7 53 [(0, .ref x0), (1, .int x1), (2, .int x2), (3, .int x3), (6, .int x6)] [.int y0] m := by
  unfold b_X8_isSame_53 at h
  refine v_istore (pc := 53) (lv' := [(5, .int y0), (0, .ref x0), (1, .int x1), (2, .int x2), (3, .int x3), (6, .int x6)]) C 30 rfl (by decide) rfl ?_
  refine v_iincN (pc := 55) C 31 5 (fun v1 => [(6, .int v1), (5, .int y0), (0, .ref x0), (1, .int x1), (2, .int x2), (3, .int x3)]) rfl rfl (by decide) (fun _ => rfl) (fun v1 ev1 => ?_)
  replace h := g_nm h ev1
  refine v_goto (pc := 58) C 32 16 rfl (by decide) ?_
  refine v_sub [(0, .ref x0), (1, .int x1), (2, .int x2), (3, .int x3), (5, .int y0), (6, .int v1)] [2, 3, 4, 5, 1, 0] rfl ?_
  exact hk16 _ _ _ _ _ _ _ h
def b_X8_isSame_16 (sh : List gS) (F : Nat) (k16 : Nat → Int32 → Int32 → Int32 → Int32 → Int32 → gM → Option (Int32 × gM)) (x0 : Nat) (x1 : Int32) (x2 : Int32) (x3 : Int32) (x5 : Int32) (x6 : Int32) (m : gM) : Option (Int32 × gM) :=
  if x5 = 0 then (g_if (zB x5) (some (x5, m))) else (if x2 ≤ x6 then (g_if (zB x5) (some (x5, m))) else (g_if (oB sh x0 8) ((m.2.2 x0 3).bind (fun t6 => g_if (aB sh t6 .int (x1 + x6)) ((m.2.2 x0 3).bind (fun t8 => g_if (aB sh t8 .int (x3 + x6)) (if (m.1 t6 (x1 + x6).toNatClampNeg) = (m.1 t8 (x3 + x6).toNatClampNeg) then (b_X8_isSame_53 sh F k16 x0 x1 x2 x3 x6 1 m) else (b_X8_isSame_53 sh F k16 x0 x1 x2 x3 x6 0 m))))))))
set_option maxRecDepth 100000 in
set_option maxHeartbeats 4000000 in
theorem tb_X8_isSame_16 {X : gX} {w : gW} {rr : Int32} {rm : gM} (C : gC X w K_X8_isSame 7 RX8 0) (hr : X.2.2.2.2.2.2.2.2.1.sig.returnType = (some .boolean)) {F : Nat} {k16 : Nat → Int32 → Int32 → Int32 → Int32 → Int32 → gM → Option (Int32 × gM)} (hk16 : ∀ (z0 : Nat) (z1 : Int32) (z2 : Int32) (z3 : Int32) (z5 : Int32) (z6 : Int32) (m : gM), k16 z0 z1 z2 z3 z5 z6 m = some (rr, rm) → gV X w 0 0 (gR X w (some (.int rr)) rm) 7 16 [(0, .ref z0), (1, .int z1), (2, .int z2), (3, .int z3), (5, .int z5), (6, .int z6)] [] m) {x0 : Nat} {x1 : Int32} {x2 : Int32} {x3 : Int32} {x5 : Int32} {x6 : Int32} {m : gM} (h : b_X8_isSame_16 w.2.2.2.2.1 F k16 x0 x1 x2 x3 x5 x6 m = some (rr, rm)) : gV X w 0 0 (gR X w (some (.int rr)) rm) 7 16 [(0, .ref x0), (1, .int x1), (2, .int x2), (3, .int x3), (5, .int x5), (6, .int x6)] [] m := by
  unfold b_X8_isSame_16 at h
  refine v_iload (pc := 16) C 9 4 rfl rfl ?_
  refine v_if_eq (pc := 18) C 10 61 rfl (by decide) (fun c1 => ?_) (fun c1 => ?_)
  · replace h := g_ifT c1 h
    refine v_iload (pc := 61) C 33 4 rfl rfl ?_
    obtain ⟨o2, h⟩ := g_okk h
    obtain ⟨rfl, rfl⟩ := g_so h
    exact v_zret (pc := 63) C 34 rfl hr (g_zB o2)
  · replace h := g_ifF c1 h
    refine v_iload (pc := 21) C 11 5 rfl rfl ?_
    refine v_iload_n (pc := 23) C 12 2 rfl rfl rfl ?_
    refine v_icmp_ge (pc := 24) C 13 61 rfl (by decide) (fun c3 => ?_) (fun c3 => ?_)
    · replace h := g_ifT c3 h
      refine v_iload (pc := 61) C 33 4 rfl rfl ?_
      obtain ⟨o4, h⟩ := g_okk h
      obtain ⟨rfl, rfl⟩ := g_so h
      exact v_zret (pc := 63) C 34 rfl hr (g_zB o4)
    · replace h := g_ifF c3 h
      refine v_aload_n (pc := 27) C 14 0 rfl rfl rfl ?_
      obtain ⟨o5, h⟩ := g_okk h
      obtain ⟨t6, qt6, h⟩ := g_bd h
      refine v_getR (pc := 28) C 15 rfl lf_ScopeGraphModel_13 (g_oB o5) rfl qt6 ?_
      refine v_iload_n (pc := 31) C 16 1 rfl rfl rfl ?_
      refine v_iload (pc := 32) C 17 5 rfl rfl ?_
      refine v_iadd (pc := 34) C 18 rfl ?_
      obtain ⟨b7, h⟩ := g_okk h
      refine v_iald' (pc := 35) C 19 rfl b7 ?_
      refine v_aload_n (pc := 36) C 20 0 rfl rfl rfl ?_
      obtain ⟨t8, qt8, h⟩ := g_bd h
      refine v_getR (pc := 37) C 21 rfl lf_ScopeGraphModel_13 (g_oB o5) rfl qt8 ?_
      refine v_iload_n (pc := 40) C 22 3 rfl rfl rfl ?_
      refine v_iload (pc := 41) C 23 5 rfl rfl ?_
      refine v_iadd (pc := 43) C 24 rfl ?_
      obtain ⟨b9, h⟩ := g_okk h
      refine v_iald' (pc := 44) C 25 rfl b9 ?_
      refine v_icmp_ne (pc := 45) C 26 52 rfl (by decide) (fun c10 => ?_) (fun c10 => ?_)
      · replace h := g_ifF c10 h
        refine v_iconst (pc := 52) C 29 0 rfl (by decide) ?_
        refine v_sub [(0, .ref x0), (1, .int x1), (2, .int x2), (3, .int x3), (6, .int x6)] [0, 1, 2, 3, 5] rfl ?_
        exact tb_X8_isSame_53 (F := F) C hr hk16 h
      · replace h := g_ifT c10 h
        refine v_iconst (pc := 48) C 27 1 rfl (by decide) ?_
        refine v_goto (pc := 49) C 28 53 rfl (by decide) ?_
        refine v_sub [(0, .ref x0), (1, .int x1), (2, .int x2), (3, .int x3), (6, .int x6)] [0, 1, 2, 3, 5] rfl ?_
        exact tb_X8_isSame_53 (F := F) C hr hk16 h
def l_X8_isSame_16 (sh : List gS) (F : Nat) : Nat → Nat → Int32 → Int32 → Int32 → Int32 → Int32 → gM → Option (Int32 × gM)
  | 0 => fun _ _ _ _ _ _ _ => none
  | n + 1 => fun x0 x1 x2 x3 x5 x6 m => b_X8_isSame_16 sh F (l_X8_isSame_16 sh F n) x0 x1 x2 x3 x5 x6 m
theorem tl_X8_isSame_16 {X : gX} {w : gW} {rr : Int32} {rm : gM} (C : gC X w K_X8_isSame 7 RX8 0) (hr : X.2.2.2.2.2.2.2.2.1.sig.returnType = (some .boolean)) {F : Nat} : ∀ (n : Nat) (x0 : Nat) (x1 : Int32) (x2 : Int32) (x3 : Int32) (x5 : Int32) (x6 : Int32) (m : gM), l_X8_isSame_16 w.2.2.2.2.1 F n x0 x1 x2 x3 x5 x6 m = some (rr, rm) → gV X w 0 0 (gR X w (some (.int rr)) rm) 7 16 [(0, .ref x0), (1, .int x1), (2, .int x2), (3, .int x3), (5, .int x5), (6, .int x6)] [] m := by
  intro n
  induction n with
  | zero => intro x0 x1 x2 x3 x5 x6 m h; cases h
  | succ n ih => intro x0 x1 x2 x3 x5 x6 m h; exact tb_X8_isSame_16 (F := F) C hr ih h
def b_X8_isSame_11 (sh : List gS) (F : Nat) (x0 : Nat) (x1 : Int32) (x2 : Int32) (x3 : Int32) (y0 : Int32) (m : gM) : Option (Int32 × gM) :=
  l_X8_isSame_16 sh F F x0 x1 x2 x3 y0 0 m
set_option maxRecDepth 100000 in
set_option maxHeartbeats 4000000 in
theorem tb_X8_isSame_11 {X : gX} {w : gW} {rr : Int32} {rm : gM} (C : gC X w K_X8_isSame 7 RX8 0) (hr : X.2.2.2.2.2.2.2.2.1.sig.returnType = (some .boolean)) {F : Nat} {x0 : Nat} {x1 : Int32} {x2 : Int32} {x3 : Int32} {y0 : Int32} {m : gM} (h : b_X8_isSame_11 w.2.2.2.2.1 F x0 x1 x2 x3 y0 m = some (rr, rm)) : gV X w 0 0 (gR X w (some (.int rr)) rm) 7 11 [(0, .ref x0), (1, .int x1), (2, .int x2), (3, .int x3)] [.int y0] m := by
  unfold b_X8_isSame_11 at h
  refine v_istore (pc := 11) (lv' := [(5, .int y0), (0, .ref x0), (1, .int x1), (2, .int x2), (3, .int x3)]) C 6 rfl (by decide) rfl ?_
  refine v_iconst (pc := 13) C 7 0 rfl (by decide) ?_
  refine v_istore (pc := 14) (lv' := [(6, .int 0), (5, .int y0), (0, .ref x0), (1, .int x1), (2, .int x2), (3, .int x3)]) C 8 rfl (by decide) rfl ?_
  refine v_sub [(0, .ref x0), (1, .int x1), (2, .int x2), (3, .int x3), (5, .int y0), (6, .int 0)] [2, 3, 4, 5, 1, 0] rfl ?_
  exact tl_X8_isSame_16 (F := F) C hr _ _ _ _ _ _ _ _ h
def f_X8_isSame (sh : List gS) (F : Nat) (x0 : Nat) (x1 : Int32) (x2 : Int32) (x3 : Int32) (x4 : Int32) (m : gM) : Option (Int32 × gM) :=
  if x2 = x4 then (b_X8_isSame_11 sh F x0 x1 x2 x3 1 m) else (b_X8_isSame_11 sh F x0 x1 x2 x3 0 m)
set_option maxRecDepth 100000 in
set_option maxHeartbeats 4000000 in
theorem tf_X8_isSame {X : gX} {w : gW} {rr : Int32} {rm : gM} (C : gC X w K_X8_isSame 7 RX8 0) (hr : X.2.2.2.2.2.2.2.2.1.sig.returnType = (some .boolean)) {F : Nat} {x0 : Nat} {x1 : Int32} {x2 : Int32} {x3 : Int32} {x4 : Int32} {m : gM} (h : f_X8_isSame w.2.2.2.2.1 F x0 x1 x2 x3 x4 m = some (rr, rm)) : gV X w 0 0 (gR X w (some (.int rr)) rm) 7 0 [(0, .ref x0), (1, .int x1), (2, .int x2), (3, .int x3), (4, .int x4)] [] m := by
  unfold f_X8_isSame at h
  refine v_iload_n (pc := 0) C 0 2 rfl rfl rfl ?_
  refine v_iload (pc := 1) C 1 4 rfl rfl ?_
  refine v_icmp_ne (pc := 3) C 2 10 rfl (by decide) (fun c1 => ?_) (fun c1 => ?_)
  · replace h := g_ifF c1 h
    refine v_iconst (pc := 10) C 5 0 rfl (by decide) ?_
    refine v_sub [(0, .ref x0), (1, .int x1), (2, .int x2), (3, .int x3)] [0, 1, 2, 3] rfl ?_
    exact tb_X8_isSame_11 (F := F) C hr h
  · replace h := g_ifT c1 h
    refine v_iconst (pc := 6) C 3 1 rfl (by decide) ?_
    refine v_goto (pc := 7) C 4 11 rfl (by decide) ?_
    refine v_sub [(0, .ref x0), (1, .int x1), (2, .int x2), (3, .int x3)] [0, 1, 2, 3] rfl ?_
    exact tb_X8_isSame_11 (F := F) C hr h
theorem c_X8_isSame {l : Launch} {w : gW} {rr : Int32} {rm : gM} (hJ : gJok w) {F : Nat} {x0 : Nat} {x1 : Int32} {x2 : Int32} {x3 : Int32} {x4 : Int32} {m : gM} (h : f_X8_isSame w.2.2.2.2.1 F x0 x1 x2 x3 x4 m = some (rr, rm)) : gMet l 0 yX8_isSame cX8_isSame 7 (some .boolean) w [.ref x0, .int x1, .int x2, .int x3, .int x4] m (some (.int rr)) rm :=
  gMet.of hJ mf_X8_isSame dk_X8_isSame (Nat.le_of_ble_eq_true rfl) (fun X _ C hr => tf_X8_isSame (F := F) C hr h)
