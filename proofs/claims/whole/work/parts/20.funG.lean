def f_X7_count (sh : List gS) (F : Nat) (x0 : Nat) (x1 : Int32) (m : gM) : Option (Option Int32 × gM) :=
  if x1 = 0 then (g_if (oB sh x0 7) ((m.2.2 x0 2).bind (fun t3 => g_if (oB sh t3 2) (some (some (m.1 t3 11), m))))) else (if x1 = 1 then (g_if (oB sh x0 7) ((m.2.2 x0 2).bind (fun t7 => g_if (oB sh t7 2) ((m.2.2 t7 0).bind (fun t9 => g_if (oB sh t9 0) (some (some (m.1 t9 4), m))))))) else (if x1 = 2 then (g_if (oB sh x0 7) ((m.2.2 x0 2).bind (fun t13 => g_if (oB sh t13 2) ((m.2.2 t13 1).bind (fun t15 => g_if (oB sh t15 0) (some (some (m.1 t15 4), m))))))) else (if x1 = 3 then (g_if (oB sh x0 7) ((m.2.2 x0 2).bind (fun t19 => g_if (oB sh t19 2) ((f_X2_importsInAll sh F t19 m).bind (fun q23 => nm q23.1 (fun r22 => nm q23.2 (fun m21 => some (some r22, m21)))))))) else (if x1 = 4 then (g_if (oB sh x0 7) ((m.2.2 x0 4).bind (fun t26 => (m.2.2 x0 2).bind (fun t27 => g_if (oB sh t27 2) ((m.2.2 t27 1).bind (fun t29 => g_if (oB sh t29 0) (g_if (oB sh t26 1) ((f_X1_howManyMean sh F t26 0 0 (m.1 t29 4) m).bind (fun q34 => nm q34.1 (fun r33 => nm q34.2 (fun m32 => some (some r33, m32)))))))))))) else (if x1 = 5 then (g_if (oB sh x0 7) ((m.2.2 x0 4).bind (fun t37 => (m.2.2 x0 2).bind (fun t38 => g_if (oB sh t38 2) ((m.2.2 t38 1).bind (fun t40 => g_if (oB sh t40 0) (g_if (oB sh t37 1) ((f_X1_howManyMean sh F t37 2 60 (m.1 t40 4) m).bind (fun q45 => nm q45.1 (fun r44 => nm q45.2 (fun m43 => some (some r44, m43)))))))))))) else (if x1 = 6 then (g_if (oB sh x0 7) ((m.2.2 x0 1).bind (fun t48 => g_if (oB sh t48 5) (some (some (m.1 t48 1), m))))) else (if x1 = 7 then (g_if (oB sh x0 7) ((m.2.2 x0 0).bind (fun t52 => g_if (oB sh t52 5) (some (some (m.1 t52 1), m))))) else (some (none, m)))))))))
set_option maxRecDepth 100000 in
set_option maxHeartbeats 4000000 in
theorem tf_X7_count {X : gX} {w : gW} {rr : Option Int32} {rm : gM} (C : gC X w K_X7_count 2 RX7 6) (hG : gJs w) (hl0 : X.2.1.stackTraces = false) (hE : gJx w) (hT : ∀ x ∈ X.2.2.2.2.2.2.2.2.2.exceptionTable.toList, False) (hR : X.2.2.2.1 = g_rx 6) (hr : X.2.2.2.2.2.2.2.2.1.sig.returnType = (some .int)) {F : Nat} {x0 : Nat} {x1 : Int32} {m : gM} (h : f_X7_count w.2.2.2.2.1 F x0 x1 m = some (rr, rm)) : gV X w 0 0 (gRx X w "java/lang/IndexOutOfBoundsException" (rr.map (fun v => some (.int v))) rm) 2 0 [(0, .ref x0), (1, .int x1)] [] m := by
  unfold f_X7_count at h
  refine v_iload_n (pc := 0) C 0 1 rfl rfl rfl ?_
  by_cases c1 : x1 = 0
  · replace h := g_ifT c1 h
    refine v_tableIn (pc := 1) C 1 48 rfl (by rw [c1]; decide) (by rw [c1]; decide) (by rw [c1]; rfl) (by decide) ?_
    refine v_aload_n (pc := 48) C 2 0 rfl rfl rfl ?_
    obtain ⟨o2, h⟩ := g_okk h
    obtain ⟨t3, qt3, h⟩ := g_bd h
    refine v_getR (pc := 49) C 3 rfl lf_ScopeGraph_22.get (g_oB o2) rfl qt3 ?_
    obtain ⟨o4, h⟩ := g_okk h
    refine v_getI (pc := 52) C 4 rfl lf_ScopeGraph_93.get (g_oB o4) rfl ?_
    obtain ⟨rfl, rfl⟩ := g_so h
    exact v_xiret (pc := 55) C 5 rfl hr
  · replace h := g_ifF c1 h
    have zc1 := g_tne (n := 0) (by decide) c1
    by_cases c5 : x1 = 1
    · replace h := g_ifT c5 h
      refine v_tableIn (pc := 1) C 1 56 rfl (by rw [c5]; decide) (by rw [c5]; decide) (by rw [c5]; rfl) (by decide) ?_
      refine v_aload_n (pc := 56) C 6 0 rfl rfl rfl ?_
      obtain ⟨o6, h⟩ := g_okk h
      obtain ⟨t7, qt7, h⟩ := g_bd h
      refine v_getR (pc := 57) C 7 rfl lf_ScopeGraph_22.get (g_oB o6) rfl qt7 ?_
      obtain ⟨o8, h⟩ := g_okk h
      obtain ⟨t9, qt9, h⟩ := g_bd h
      refine v_getR (pc := 60) C 8 rfl lf_ScopeGraph_100 (g_oB o8) rfl qt9 ?_
      obtain ⟨o10, h⟩ := g_okk h
      refine v_getI (pc := 63) C 9 rfl lf_ScopeGraph_104.get (g_oB o10) rfl ?_
      obtain ⟨rfl, rfl⟩ := g_so h
      exact v_xiret (pc := 66) C 10 rfl hr
    · replace h := g_ifF c5 h
      have zc5 := g_tne (n := 1) (by decide) c5
      by_cases c11 : x1 = 2
      · replace h := g_ifT c11 h
        refine v_tableIn (pc := 1) C 1 67 rfl (by rw [c11]; decide) (by rw [c11]; decide) (by rw [c11]; rfl) (by decide) ?_
        refine v_aload_n (pc := 67) C 11 0 rfl rfl rfl ?_
        obtain ⟨o12, h⟩ := g_okk h
        obtain ⟨t13, qt13, h⟩ := g_bd h
        refine v_getR (pc := 68) C 12 rfl lf_ScopeGraph_22.get (g_oB o12) rfl qt13 ?_
        obtain ⟨o14, h⟩ := g_okk h
        obtain ⟨t15, qt15, h⟩ := g_bd h
        refine v_getR (pc := 71) C 13 rfl lf_ScopeGraph_107 (g_oB o14) rfl qt15 ?_
        obtain ⟨o16, h⟩ := g_okk h
        refine v_getI (pc := 74) C 14 rfl lf_ScopeGraph_104.get (g_oB o16) rfl ?_
        obtain ⟨rfl, rfl⟩ := g_so h
        exact v_xiret (pc := 77) C 15 rfl hr
      · replace h := g_ifF c11 h
        have zc11 := g_tne (n := 2) (by decide) c11
        by_cases c17 : x1 = 3
        · replace h := g_ifT c17 h
          refine v_tableIn (pc := 1) C 1 78 rfl (by rw [c17]; decide) (by rw [c17]; decide) (by rw [c17]; rfl) (by decide) ?_
          refine v_aload_n (pc := 78) C 16 0 rfl rfl rfl ?_
          obtain ⟨o18, h⟩ := g_okk h
          obtain ⟨t19, qt19, h⟩ := g_bd h
          refine v_getR (pc := 79) C 17 rfl lf_ScopeGraph_22.get (g_oB o18) rfl qt19 ?_
          obtain ⟨o20, h⟩ := g_okk h
          obtain ⟨⟨r22, m21⟩, qm21, h⟩ := g_bd h
          replace h := g_nm (y := m21) (g_nm (y := r22) h rfl) rfl
          refine v_callV (pc := 82) C 18 rfl mf_X2_importsInAll clX2 rfl im_X2_importsInAll lm_ScopeGraph_110 (c_X2_importsInAll C.2.2.2.2.2.2.2.2.2.2.2 qm21) (by decide) rfl (g_oB o20) (Nat.le_of_ble_eq_true rfl) ⟨Nat.zero_le _, Nat.zero_le _⟩ rfl ?_
          change gV X w 0 0 (gRx X w "java/lang/IndexOutOfBoundsException" (rr.map (fun v => some (.int v))) rm) 2 85 [(0, .ref x0), (1, .int x1)] [.int r22] m21
          obtain ⟨rfl, rfl⟩ := g_so h
          exact v_xiret (pc := 85) C 19 rfl hr
        · replace h := g_ifF c17 h
          have zc17 := g_tne (n := 3) (by decide) c17
          by_cases c24 : x1 = 4
          · replace h := g_ifT c24 h
            refine v_tableIn (pc := 1) C 1 86 rfl (by rw [c24]; decide) (by rw [c24]; decide) (by rw [c24]; rfl) (by decide) ?_
            refine v_aload_n (pc := 86) C 20 0 rfl rfl rfl ?_
            obtain ⟨o25, h⟩ := g_okk h
            obtain ⟨t26, qt26, h⟩ := g_bd h
            refine v_getR (pc := 87) C 21 rfl lf_ScopeGraph_32.get (g_oB o25) rfl qt26 ?_
            refine v_iconst (pc := 90) C 22 0 rfl (by decide) ?_
            refine v_iconst (pc := 91) C 23 0 rfl (by decide) ?_
            refine v_aload_n (pc := 92) C 24 0 rfl rfl rfl ?_
            obtain ⟨t27, qt27, h⟩ := g_bd h
            refine v_getR (pc := 93) C 25 rfl lf_ScopeGraph_22.get (g_oB o25) rfl qt27 ?_
            obtain ⟨o28, h⟩ := g_okk h
            obtain ⟨t29, qt29, h⟩ := g_bd h
            refine v_getR (pc := 96) C 26 rfl lf_ScopeGraph_107 (g_oB o28) rfl qt29 ?_
            obtain ⟨o30, h⟩ := g_okk h
            refine v_getI (pc := 99) C 27 rfl lf_ScopeGraph_104.get (g_oB o30) rfl ?_
            obtain ⟨o31, h⟩ := g_okk h
            obtain ⟨⟨r33, m32⟩, qm32, h⟩ := g_bd h
            replace h := g_nm (y := m32) (g_nm (y := r33) h rfl) rfl
            refine v_callV (pc := 102) C 28 rfl mf_X1_howManyMean clX1 rfl im_X1_howManyMean lm_ScopeGraph_113 (c_X1_howManyMean C.2.2.2.2.2.2.2.2.2.2.2 qm32) (by decide) rfl (g_oB o31) (Nat.le_of_ble_eq_true rfl) ⟨Nat.zero_le _, Nat.zero_le _⟩ rfl ?_
            change gV X w 0 0 (gRx X w "java/lang/IndexOutOfBoundsException" (rr.map (fun v => some (.int v))) rm) 2 105 [(0, .ref x0), (1, .int x1)] [.int r33] m32
            obtain ⟨rfl, rfl⟩ := g_so h
            exact v_xiret (pc := 105) C 29 rfl hr
          · replace h := g_ifF c24 h
            have zc24 := g_tne (n := 4) (by decide) c24
            by_cases c35 : x1 = 5
            · replace h := g_ifT c35 h
              refine v_tableIn (pc := 1) C 1 106 rfl (by rw [c35]; decide) (by rw [c35]; decide) (by rw [c35]; rfl) (by decide) ?_
              refine v_aload_n (pc := 106) C 30 0 rfl rfl rfl ?_
              obtain ⟨o36, h⟩ := g_okk h
              obtain ⟨t37, qt37, h⟩ := g_bd h
              refine v_getR (pc := 107) C 31 rfl lf_ScopeGraph_32.get (g_oB o36) rfl qt37 ?_
              refine v_iconst (pc := 110) C 32 2 rfl (by decide) ?_
              refine v_bipush (pc := 111) C 33 60 rfl (by decide) ?_
              refine v_aload_n (pc := 113) C 34 0 rfl rfl rfl ?_
              obtain ⟨t38, qt38, h⟩ := g_bd h
              refine v_getR (pc := 114) C 35 rfl lf_ScopeGraph_22.get (g_oB o36) rfl qt38 ?_
              obtain ⟨o39, h⟩ := g_okk h
              obtain ⟨t40, qt40, h⟩ := g_bd h
              refine v_getR (pc := 117) C 36 rfl lf_ScopeGraph_107 (g_oB o39) rfl qt40 ?_
              obtain ⟨o41, h⟩ := g_okk h
              refine v_getI (pc := 120) C 37 rfl lf_ScopeGraph_104.get (g_oB o41) rfl ?_
              obtain ⟨o42, h⟩ := g_okk h
              obtain ⟨⟨r44, m43⟩, qm43, h⟩ := g_bd h
              replace h := g_nm (y := m43) (g_nm (y := r44) h rfl) rfl
              refine v_callV (pc := 123) C 38 rfl mf_X1_howManyMean clX1 rfl im_X1_howManyMean lm_ScopeGraph_113 (c_X1_howManyMean C.2.2.2.2.2.2.2.2.2.2.2 qm43) (by decide) rfl (g_oB o42) (Nat.le_of_ble_eq_true rfl) ⟨Nat.zero_le _, Nat.zero_le _⟩ rfl ?_
              change gV X w 0 0 (gRx X w "java/lang/IndexOutOfBoundsException" (rr.map (fun v => some (.int v))) rm) 2 126 [(0, .ref x0), (1, .int x1)] [.int r44] m43
              obtain ⟨rfl, rfl⟩ := g_so h
              exact v_xiret (pc := 126) C 39 rfl hr
            · replace h := g_ifF c35 h
              have zc35 := g_tne (n := 5) (by decide) c35
              by_cases c46 : x1 = 6
              · replace h := g_ifT c46 h
                refine v_tableIn (pc := 1) C 1 127 rfl (by rw [c46]; decide) (by rw [c46]; decide) (by rw [c46]; rfl) (by decide) ?_
                refine v_aload_n (pc := 127) C 40 0 rfl rfl rfl ?_
                obtain ⟨o47, h⟩ := g_okk h
                obtain ⟨t48, qt48, h⟩ := g_bd h
                refine v_getR (pc := 128) C 41 rfl lf_ScopeGraph_16.get (g_oB o47) rfl qt48 ?_
                obtain ⟨o49, h⟩ := g_okk h
                refine v_getI (pc := 131) C 42 rfl lf_ScopeGraph_61.get (g_oB o49) rfl ?_
                obtain ⟨rfl, rfl⟩ := g_so h
                exact v_xiret (pc := 134) C 43 rfl hr
              · replace h := g_ifF c46 h
                have zc46 := g_tne (n := 6) (by decide) c46
                by_cases c50 : x1 = 7
                · replace h := g_ifT c50 h
                  refine v_tableIn (pc := 1) C 1 135 rfl (by rw [c50]; decide) (by rw [c50]; decide) (by rw [c50]; rfl) (by decide) ?_
                  refine v_aload_n (pc := 135) C 44 0 rfl rfl rfl ?_
                  obtain ⟨o51, h⟩ := g_okk h
                  obtain ⟨t52, qt52, h⟩ := g_bd h
                  refine v_getR (pc := 136) C 45 rfl lf_ScopeGraph_10.get (g_oB o51) rfl qt52 ?_
                  obtain ⟨o53, h⟩ := g_okk h
                  refine v_getI (pc := 139) C 46 rfl lf_ScopeGraph_61.get (g_oB o53) rfl ?_
                  obtain ⟨rfl, rfl⟩ := g_so h
                  exact v_xiret (pc := 142) C 47 rfl hr
                · replace h := g_ifF c50 h
                  have zc50 := g_tne (n := 7) (by decide) c50
                  refine v_tableOut (pc := 1) C 1 143 rfl (by omega) (by decide) ?_
                  obtain ⟨rfl, rfl⟩ := g_so h
                  exact v_throw (pc := 143) C hl0 hE hT hR (by decide) 48 (k := 1000004) ew_I (hG _ C.2.2.2.2.2.2.2.2.2.2.1).2.2.2.2.2.2.2.1 rfl rfl rfl rfl rfl (Nat.le_of_ble_eq_true rfl)
theorem c_X7_count {l : Launch} {w : gW} {rr : Option Int32} {rm : gM} (hJ : gJok w) (hG : gJs w) (hl0 : l.stackTraces = false) (hE : gJx w) {F : Nat} {x0 : Nat} {x1 : Int32} {m : gM} (h : f_X7_count w.2.2.2.2.1 F x0 x1 m = some (rr, rm)) : gMx l 6 yX7_count cX7_count 2 (some .int) w [.ref x0, .int x1] m "java/lang/IndexOutOfBoundsException" (rr.map (fun v => some (.int v))) rm :=
  gMx.of hJ mf_X7_count dk_X7_count (Nat.le_of_ble_eq_true rfl) (fun X hX C hT hR hr => tf_X7_count (F := F) C hG (by rw [hX]; exact hl0) hE hT hR hr h)
def f_X7_declaration (sh : List gS) (F : Nat) (x0 : Nat) (x1 : Int32) (x2 : Int32) (m : gM) : Option (Option Int32 × gM) :=
  g_if (oB sh x0 7) ((m.2.2 x0 2).bind (fun t2 => g_if (oB sh t2 2) ((m.2.2 t2 0).bind (fun t4 => g_if (oB sh t4 0) ((f_X0_has sh F t4 x1 m).bind (fun q8 => nm q8.1 (fun r7 => nm q8.2 (fun m6 => if r7 = 0 then (some (none, m6)) else (if x2 = 0 then ((m6.2.2 x0 2).bind (fun t11 => g_if (oB sh t11 2) ((m6.2.2 t11 0).bind (fun t13 => g_if (oB sh t13 0) ((m6.2.2 t13 0).bind (fun t15 => g_if (aB sh t15 .int x1) (some (some (m6.1 t15 (x1).toNatClampNeg), m6)))))))) else (if x2 = 1 then ((m6.2.2 x0 2).bind (fun t18 => g_if (oB sh t18 2) ((m6.2.2 t18 0).bind (fun t20 => g_if (oB sh t20 0) ((m6.2.2 t20 1).bind (fun t22 => g_if (aB sh t22 .int x1) (some (some (m6.1 t22 (x1).toNatClampNeg), m6)))))))) else (if x2 = 2 then ((m6.2.2 x0 2).bind (fun t25 => g_if (oB sh t25 2) ((m6.2.2 t25 6).bind (fun t27 => g_if (aB sh t27 .int x1) (some (some (m6.1 t27 (x1).toNatClampNeg), m6)))))) else (if x2 = 3 then ((m6.2.2 x0 4).bind (fun t30 => (m6.2.2 x0 2).bind (fun t31 => g_if (oB sh t31 2) ((m6.2.2 t31 1).bind (fun t33 => g_if (oB sh t33 0) (g_if (oB sh t30 1) ((f_X1_friendsOf sh F t30 x1 (m6.1 t33 4) m6).bind (fun q38 => nm q38.1 (fun r37 => nm q38.2 (fun m36 => (f_J13_bitCount_95d88 sh F r37 m36).bind (fun q41 => nm q41.1 (fun r40 => nm q41.2 (fun m39 => some (some r40, m39)))))))))))))) else (if x2 = 4 then ((m6.2.2 x0 4).bind (fun t43 => (m6.2.2 x0 2).bind (fun t44 => g_if (oB sh t44 2) ((m6.2.2 t44 1).bind (fun t46 => g_if (oB sh t46 0) (g_if (oB sh t43 1) ((f_X1_usersOf sh F t43 ((1 : Int64) <<< (x1.toInt64 &&& 63)) (m6.1 t46 4) m6).bind (fun q51 => nm q51.1 (fun r50 => nm q51.2 (fun m49 => some (some r50, m49))))))))))) else (some (none, m6)))))))))))))))
set_option maxRecDepth 100000 in
set_option maxHeartbeats 4000000 in
theorem tf_X7_declaration {X : gX} {w : gW} {rr : Option Int32} {rm : gM} (C : gC X w K_X7_declaration 3 RX7 6) (hG : gJs w) (hl0 : X.2.1.stackTraces = false) (hE : gJx w) (hT : ∀ x ∈ X.2.2.2.2.2.2.2.2.2.exceptionTable.toList, False) (hR : X.2.2.2.1 = g_rx 6) (hr : X.2.2.2.2.2.2.2.2.1.sig.returnType = (some .int)) {F : Nat} {x0 : Nat} {x1 : Int32} {x2 : Int32} {m : gM} (h : f_X7_declaration w.2.2.2.2.1 F x0 x1 x2 m = some (rr, rm)) : gV X w 0 0 (gRx X w "java/lang/IndexOutOfBoundsException" (rr.map (fun v => some (.int v))) rm) 3 0 [(0, .ref x0), (1, .int x1), (2, .int x2)] [] m := by
  unfold f_X7_declaration at h
  refine v_aload_n (pc := 0) C 0 0 rfl rfl rfl ?_
  obtain ⟨o1, h⟩ := g_okk h
  obtain ⟨t2, qt2, h⟩ := g_bd h
  refine v_getR (pc := 1) C 1 rfl lf_ScopeGraph_22.get (g_oB o1) rfl qt2 ?_
  obtain ⟨o3, h⟩ := g_okk h
  obtain ⟨t4, qt4, h⟩ := g_bd h
  refine v_getR (pc := 4) C 2 rfl lf_ScopeGraph_100 (g_oB o3) rfl qt4 ?_
  refine v_iload_n (pc := 7) C 3 1 rfl rfl rfl ?_
  obtain ⟨o5, h⟩ := g_okk h
  obtain ⟨⟨r7, m6⟩, qm6, h⟩ := g_bd h
  replace h := g_nm (y := m6) (g_nm (y := r7) h rfl) rfl
  refine v_callV (pc := 8) C 4 rfl mf_X0_has clX0 rfl im_X0_has lm_ScopeGraph_148 (c_X0_has C.2.2.2.2.2.2.2.2.2.2.2 qm6) (by decide) rfl (g_oB o5) (Nat.le_of_ble_eq_true rfl) ⟨Nat.zero_le _, Nat.zero_le _⟩ rfl ?_
  change gV X w 0 0 (gRx X w "java/lang/IndexOutOfBoundsException" (rr.map (fun v => some (.int v))) rm) 3 11 [(0, .ref x0), (1, .int x1), (2, .int x2)] [.int r7] m6
  refine v_if_ne (pc := 11) C 5 24 rfl (by decide) (fun c9 => ?_) (fun c9 => ?_)
  · replace h := g_ifF c9 h
    refine v_iload_n (pc := 24) C 11 2 rfl rfl rfl ?_
    by_cases c10 : x2 = 0
    · replace h := g_ifT c10 h
      refine v_tableIn (pc := 25) C 12 60 rfl (by rw [c10]; decide) (by rw [c10]; decide) (by rw [c10]; rfl) (by decide) ?_
      refine v_aload_n (pc := 60) C 13 0 rfl rfl rfl ?_
      obtain ⟨t11, qt11, h⟩ := g_bd h
      refine v_getR (pc := 61) C 14 rfl lf_ScopeGraph_22.get (g_oB o1) rfl qt11 ?_
      obtain ⟨o12, h⟩ := g_okk h
      obtain ⟨t13, qt13, h⟩ := g_bd h
      refine v_getR (pc := 64) C 15 rfl lf_ScopeGraph_100 (g_oB o12) rfl qt13 ?_
      obtain ⟨o14, h⟩ := g_okk h
      obtain ⟨t15, qt15, h⟩ := g_bd h
      refine v_getR (pc := 67) C 16 rfl lf_ScopeGraph_154 (g_oB o14) rfl qt15 ?_
      refine v_iload_n (pc := 70) C 17 1 rfl rfl rfl ?_
      obtain ⟨b16, h⟩ := g_okk h
      refine v_iald' (pc := 71) C 18 rfl b16 ?_
      obtain ⟨rfl, rfl⟩ := g_so h
      exact v_xiret (pc := 72) C 19 rfl hr
    · replace h := g_ifF c10 h
      have zc10 := g_tne (n := 0) (by decide) c10
      by_cases c17 : x2 = 1
      · replace h := g_ifT c17 h
        refine v_tableIn (pc := 25) C 12 73 rfl (by rw [c17]; decide) (by rw [c17]; decide) (by rw [c17]; rfl) (by decide) ?_
        refine v_aload_n (pc := 73) C 20 0 rfl rfl rfl ?_
        obtain ⟨t18, qt18, h⟩ := g_bd h
        refine v_getR (pc := 74) C 21 rfl lf_ScopeGraph_22.get (g_oB o1) rfl qt18 ?_
        obtain ⟨o19, h⟩ := g_okk h
        obtain ⟨t20, qt20, h⟩ := g_bd h
        refine v_getR (pc := 77) C 22 rfl lf_ScopeGraph_100 (g_oB o19) rfl qt20 ?_
        obtain ⟨o21, h⟩ := g_okk h
        obtain ⟨t22, qt22, h⟩ := g_bd h
        refine v_getR (pc := 80) C 23 rfl lf_ScopeGraph_156 (g_oB o21) rfl qt22 ?_
        refine v_iload_n (pc := 83) C 24 1 rfl rfl rfl ?_
        obtain ⟨b23, h⟩ := g_okk h
        refine v_iald' (pc := 84) C 25 rfl b23 ?_
        obtain ⟨rfl, rfl⟩ := g_so h
        exact v_xiret (pc := 85) C 26 rfl hr
      · replace h := g_ifF c17 h
        have zc17 := g_tne (n := 1) (by decide) c17
        by_cases c24 : x2 = 2
        · replace h := g_ifT c24 h
          refine v_tableIn (pc := 25) C 12 86 rfl (by rw [c24]; decide) (by rw [c24]; decide) (by rw [c24]; rfl) (by decide) ?_
          refine v_aload_n (pc := 86) C 27 0 rfl rfl rfl ?_
          obtain ⟨t25, qt25, h⟩ := g_bd h
          refine v_getR (pc := 87) C 28 rfl lf_ScopeGraph_22.get (g_oB o1) rfl qt25 ?_
          obtain ⟨o26, h⟩ := g_okk h
          obtain ⟨t27, qt27, h⟩ := g_bd h
          refine v_getR (pc := 90) C 29 rfl lf_ScopeGraph_159 (g_oB o26) rfl qt27 ?_
          refine v_iload_n (pc := 93) C 30 1 rfl rfl rfl ?_
          obtain ⟨b28, h⟩ := g_okk h
          refine v_iald' (pc := 94) C 31 rfl b28 ?_
          obtain ⟨rfl, rfl⟩ := g_so h
          exact v_xiret (pc := 95) C 32 rfl hr
        · replace h := g_ifF c24 h
          have zc24 := g_tne (n := 2) (by decide) c24
          by_cases c29 : x2 = 3
          · replace h := g_ifT c29 h
            refine v_tableIn (pc := 25) C 12 96 rfl (by rw [c29]; decide) (by rw [c29]; decide) (by rw [c29]; rfl) (by decide) ?_
            refine v_aload_n (pc := 96) C 33 0 rfl rfl rfl ?_
            obtain ⟨t30, qt30, h⟩ := g_bd h
            refine v_getR (pc := 97) C 34 rfl lf_ScopeGraph_32.get (g_oB o1) rfl qt30 ?_
            refine v_iload_n (pc := 100) C 35 1 rfl rfl rfl ?_
            refine v_aload_n (pc := 101) C 36 0 rfl rfl rfl ?_
            obtain ⟨t31, qt31, h⟩ := g_bd h
            refine v_getR (pc := 102) C 37 rfl lf_ScopeGraph_22.get (g_oB o1) rfl qt31 ?_
            obtain ⟨o32, h⟩ := g_okk h
            obtain ⟨t33, qt33, h⟩ := g_bd h
            refine v_getR (pc := 105) C 38 rfl lf_ScopeGraph_107 (g_oB o32) rfl qt33 ?_
            obtain ⟨o34, h⟩ := g_okk h
            refine v_getI (pc := 108) C 39 rfl lf_ScopeGraph_104.get (g_oB o34) rfl ?_
            obtain ⟨o35, h⟩ := g_okk h
            obtain ⟨⟨r37, m36⟩, qm36, h⟩ := g_bd h
            replace h := g_nm (y := m36) (g_nm (y := r37) h rfl) rfl
            refine v_callV (pc := 111) C 40 rfl mf_X1_friendsOf clX1 rfl im_X1_friendsOf lm_ScopeGraph_162 (c_X1_friendsOf C.2.2.2.2.2.2.2.2.2.2.2 qm36) (by decide) rfl (g_oB o35) (Nat.le_of_ble_eq_true rfl) ⟨Nat.zero_le _, Nat.zero_le _⟩ rfl ?_
            change gV X w 0 0 (gRx X w "java/lang/IndexOutOfBoundsException" (rr.map (fun v => some (.int v))) rm) 3 114 [(0, .ref x0), (1, .int x1), (2, .int x2)] [.long r37] m36
            obtain ⟨⟨r40, m39⟩, qm39, h⟩ := g_bd h
            replace h := g_nm (y := m39) (g_nm (y := r40) h rfl) rfl
            refine v_callS (pc := 114) C 41 rfl mf_J13_bitCount_95d88 sm_J13_bitCount_95d88 lm_ScopeGraph_135 (c_J13_bitCount_95d88 C.2.2.2.2.2.2.2.2.2.2.2 qm39) (by decide) rfl (Nat.le_of_ble_eq_true rfl) ⟨Nat.zero_le _, Nat.zero_le _⟩ rfl ?_
            change gV X w 0 0 (gRx X w "java/lang/IndexOutOfBoundsException" (rr.map (fun v => some (.int v))) rm) 3 117 [(0, .ref x0), (1, .int x1), (2, .int x2)] [.int r40] m39
            obtain ⟨rfl, rfl⟩ := g_so h
            exact v_xiret (pc := 117) C 42 rfl hr
          · replace h := g_ifF c29 h
            have zc29 := g_tne (n := 3) (by decide) c29
            by_cases c42 : x2 = 4
            · replace h := g_ifT c42 h
              refine v_tableIn (pc := 25) C 12 118 rfl (by rw [c42]; decide) (by rw [c42]; decide) (by rw [c42]; rfl) (by decide) ?_
              refine v_aload_n (pc := 118) C 43 0 rfl rfl rfl ?_
              obtain ⟨t43, qt43, h⟩ := g_bd h
              refine v_getR (pc := 119) C 44 rfl lf_ScopeGraph_32.get (g_oB o1) rfl qt43 ?_
              refine v_lconst (pc := 122) C 45 1 rfl (by decide) ?_
              refine v_iload_n (pc := 123) C 46 1 rfl rfl rfl ?_
              refine v_lshl (pc := 124) C 47 rfl ?_
              refine v_aload_n (pc := 125) C 48 0 rfl rfl rfl ?_
              obtain ⟨t44, qt44, h⟩ := g_bd h
              refine v_getR (pc := 126) C 49 rfl lf_ScopeGraph_22.get (g_oB o1) rfl qt44 ?_
              obtain ⟨o45, h⟩ := g_okk h
              obtain ⟨t46, qt46, h⟩ := g_bd h
              refine v_getR (pc := 129) C 50 rfl lf_ScopeGraph_107 (g_oB o45) rfl qt46 ?_
              obtain ⟨o47, h⟩ := g_okk h
              refine v_getI (pc := 132) C 51 rfl lf_ScopeGraph_104.get (g_oB o47) rfl ?_
              obtain ⟨o48, h⟩ := g_okk h
              obtain ⟨⟨r50, m49⟩, qm49, h⟩ := g_bd h
              replace h := g_nm (y := m49) (g_nm (y := r50) h rfl) rfl
              refine v_callV (pc := 135) C 52 rfl mf_X1_usersOf clX1 rfl im_X1_usersOf lm_ScopeGraph_166 (c_X1_usersOf C.2.2.2.2.2.2.2.2.2.2.2 qm49) (by decide) rfl (g_oB o48) (Nat.le_of_ble_eq_true rfl) ⟨Nat.zero_le _, Nat.zero_le _⟩ rfl ?_
              change gV X w 0 0 (gRx X w "java/lang/IndexOutOfBoundsException" (rr.map (fun v => some (.int v))) rm) 3 138 [(0, .ref x0), (1, .int x1), (2, .int x2)] [.int r50] m49
              obtain ⟨rfl, rfl⟩ := g_so h
              exact v_xiret (pc := 138) C 53 rfl hr
            · replace h := g_ifF c42 h
              have zc42 := g_tne (n := 4) (by decide) c42
              refine v_tableOut (pc := 25) C 12 139 rfl (by omega) (by decide) ?_
              obtain ⟨rfl, rfl⟩ := g_so h
              exact v_throw (pc := 139) C hl0 hE hT hR (by decide) 54 (k := 1000004) ew_I (hG _ C.2.2.2.2.2.2.2.2.2.2.1).2.2.2.2.2.2.2.1 rfl rfl rfl rfl rfl (Nat.le_of_ble_eq_true rfl)
  · replace h := g_ifT c9 h
    obtain ⟨rfl, rfl⟩ := g_so h
    exact v_throw (pc := 14) C hl0 hE hT hR (by decide) 6 (k := 1000006) ew_I (hG _ C.2.2.2.2.2.2.2.2.2.2.1).2.2.2.2.2.2.2.2.2.1 rfl rfl rfl rfl rfl (Nat.le_of_ble_eq_true rfl)
theorem c_X7_declaration {l : Launch} {w : gW} {rr : Option Int32} {rm : gM} (hJ : gJok w) (hG : gJs w) (hl0 : l.stackTraces = false) (hE : gJx w) {F : Nat} {x0 : Nat} {x1 : Int32} {x2 : Int32} {m : gM} (h : f_X7_declaration w.2.2.2.2.1 F x0 x1 x2 m = some (rr, rm)) : gMx l 6 yX7_declaration cX7_declaration 3 (some .int) w [.ref x0, .int x1, .int x2] m "java/lang/IndexOutOfBoundsException" (rr.map (fun v => some (.int v))) rm :=
  gMx.of hJ mf_X7_declaration dk_X7_declaration (Nat.le_of_ble_eq_true rfl) (fun X hX C hT hR hr => tf_X7_declaration (F := F) C hG (by rw [hX]; exact hl0) hE hT hR hr h)
def f_X7_end (sh : List gS) (F : Nat) (x0 : Nat) (x1 : Int32) (m : gM) : Option (Option Int32 × gM) :=
  if x1 < 0 then (some (none, m)) else (g_if (oB sh x0 7) ((m.2.2 x0 0).bind (fun t3 => g_if (oB sh t3 5) (if x1 ≤ (m.1 t3 1) then ((m.2.2 x0 0).bind (fun t6 => g_if (oB sh t6 5) (nm (gsI m t6 1 x1) (fun m8 => some (some 0, m8))))) else (some (none, m))))))
set_option maxRecDepth 100000 in
set_option maxHeartbeats 4000000 in
theorem tf_X7_end {X : gX} {w : gW} {rr : Option Int32} {rm : gM} (C : gC X w K_X7_end 2 RX7 6) (hG : gJs w) (hl0 : X.2.1.stackTraces = false) (hE : gJx w) (hT : ∀ x ∈ X.2.2.2.2.2.2.2.2.2.exceptionTable.toList, False) (hR : X.2.2.2.1 = g_rx 6) (hr : X.2.2.2.2.2.2.2.2.1.sig.returnType = none) {F : Nat} {x0 : Nat} {x1 : Int32} {m : gM} (h : f_X7_end w.2.2.2.2.1 F x0 x1 m = some (rr, rm)) : gV X w 0 0 (gRx X w "java/lang/IllegalArgumentException" (rr.map (fun _ => none)) rm) 2 0 [(0, .ref x0), (1, .int x1)] [] m := by
  unfold f_X7_end at h
  refine v_iload_n (pc := 0) C 0 1 rfl rfl rfl ?_
  refine v_if_lt (pc := 1) C 1 15 rfl (by decide) (fun c1 => ?_) (fun c1 => ?_)
  · replace h := g_ifT c1 h
    obtain ⟨rfl, rfl⟩ := g_so h
    exact v_throw (pc := 15) C hl0 hE hT hR (by decide) 7 (k := 1000003) ew_A (hG _ C.2.2.2.2.2.2.2.2.2.2.1).2.2.2.2.2.2.1 rfl rfl rfl rfl rfl (Nat.le_of_ble_eq_true rfl)
  · replace h := g_ifF c1 h
    refine v_iload_n (pc := 4) C 2 1 rfl rfl rfl ?_
    refine v_aload_n (pc := 5) C 3 0 rfl rfl rfl ?_
    obtain ⟨o2, h⟩ := g_okk h
    obtain ⟨t3, qt3, h⟩ := g_bd h
    refine v_getR (pc := 6) C 4 rfl lf_ScopeGraph_10.get (g_oB o2) rfl qt3 ?_
    obtain ⟨o4, h⟩ := g_okk h
    refine v_getI (pc := 9) C 5 rfl lf_ScopeGraph_61.get (g_oB o4) rfl ?_
    refine v_icmp_le (pc := 12) C 6 25 rfl (by decide) (fun c5 => ?_) (fun c5 => ?_)
    · replace h := g_ifT c5 h
      refine v_aload_n (pc := 25) C 12 0 rfl rfl rfl ?_
      obtain ⟨t6, qt6, h⟩ := g_bd h
      refine v_getR (pc := 26) C 13 rfl lf_ScopeGraph_10.get (g_oB o2) rfl qt6 ?_
      refine v_iload_n (pc := 29) C 14 1 rfl rfl rfl ?_
      obtain ⟨o7, h⟩ := g_okk h
      refine v_putI (pc := 30) C 15 rfl lf_ScopeGraph_61 (g_oB o7) rfl ?_
      refine v_topM (fun m8 em8 => ?_)
      replace h := g_nm h em8
      obtain ⟨rfl, rfl⟩ := g_so h
      exact v_xvret (pc := 33) C 16 rfl hr
    · replace h := g_ifF c5 h
      obtain ⟨rfl, rfl⟩ := g_so h
      exact v_throw (pc := 15) C hl0 hE hT hR (by decide) 7 (k := 1000003) ew_A (hG _ C.2.2.2.2.2.2.2.2.2.2.1).2.2.2.2.2.2.1 rfl rfl rfl rfl rfl (Nat.le_of_ble_eq_true rfl)
theorem c_X7_end {l : Launch} {w : gW} {rr : Option Int32} {rm : gM} (hJ : gJok w) (hG : gJs w) (hl0 : l.stackTraces = false) (hE : gJx w) {F : Nat} {x0 : Nat} {x1 : Int32} {m : gM} (h : f_X7_end w.2.2.2.2.1 F x0 x1 m = some (rr, rm)) : gMx l 6 yX7_end cX7_end 2 none w [.ref x0, .int x1] m "java/lang/IllegalArgumentException" (rr.map (fun _ => none)) rm :=
  gMx.of hJ mf_X7_end dk_X7_end (Nat.le_of_ble_eq_true rfl) (fun X hX C hT hR hr => tf_X7_end (F := F) C hG (by rw [hX]; exact hl0) hE hT hR hr h)
def f_X7_feed (sh : List gS) (F : Nat) (x0 : Nat) (x1 : Int32) (x2 : Int32) (x3 : Int32) (x4 : Int32) (x5 : Int32) (m : gM) : Option (Option Int32 × gM) :=
  g_if (oB sh x0 7) ((m.2.2 x0 0).bind (fun t2 => g_if (oB sh t2 5) (if (m.1 t2 1) ≤ (3980 : Int32) then ((m.2.2 x0 0).bind (fun t5 => g_if (oB sh t5 5) ((f_X5_addFour sh F t5 x1 m).bind (fun m7 => (m7.2.2 x0 0).bind (fun t9 => g_if (oB sh t9 5) ((f_X5_addFour sh F t9 x2 m7).bind (fun m11 => (m11.2.2 x0 0).bind (fun t13 => g_if (oB sh t13 5) ((f_X5_addFour sh F t13 x3 m11).bind (fun m15 => (m15.2.2 x0 0).bind (fun t17 => g_if (oB sh t17 5) ((f_X5_addFour sh F t17 x4 m15).bind (fun m19 => (m19.2.2 x0 0).bind (fun t21 => g_if (oB sh t21 5) ((f_X5_addFour sh F t21 x5 m19).bind (fun m23 => (m23.2.2 x0 0).bind (fun t25 => g_if (oB sh t25 5) (some (some (m23.1 t25 1), m23))))))))))))))))))) else (some (none, m)))))
set_option maxRecDepth 100000 in
set_option maxHeartbeats 4000000 in
theorem tf_X7_feed {X : gX} {w : gW} {rr : Option Int32} {rm : gM} (C : gC X w K_X7_feed 6 RX7 6) (hG : gJs w) (hl0 : X.2.1.stackTraces = false) (hE : gJx w) (hT : ∀ x ∈ X.2.2.2.2.2.2.2.2.2.exceptionTable.toList, False) (hR : X.2.2.2.1 = g_rx 6) (hr : X.2.2.2.2.2.2.2.2.1.sig.returnType = (some .int)) {F : Nat} {x0 : Nat} {x1 : Int32} {x2 : Int32} {x3 : Int32} {x4 : Int32} {x5 : Int32} {m : gM} (h : f_X7_feed w.2.2.2.2.1 F x0 x1 x2 x3 x4 x5 m = some (rr, rm)) : gV X w 0 0 (gRx X w "java/lang/UnsupportedOperationException" (rr.map (fun v => some (.int v))) rm) 6 0 [(0, .ref x0), (1, .int x1), (2, .int x2), (3, .int x3), (4, .int x4), (5, .int x5)] [] m := by
  unfold f_X7_feed at h
  refine v_aload_n (pc := 0) C 0 0 rfl rfl rfl ?_
  obtain ⟨o1, h⟩ := g_okk h
  obtain ⟨t2, qt2, h⟩ := g_bd h
  refine v_getR (pc := 1) C 1 rfl lf_ScopeGraph_10.get (g_oB o1) rfl qt2 ?_
  obtain ⟨o3, h⟩ := g_okk h
  refine v_getI (pc := 4) C 2 rfl lf_ScopeGraph_61.get (g_oB o3) rfl ?_
  refine v_sipush (pc := 7) C 3 3980 rfl (by decide) ?_
  refine v_icmp_le (pc := 10) C 4 23 rfl (by decide) (fun c4 => ?_) (fun c4 => ?_)
  · replace h := g_ifT c4 h
    refine v_aload_n (pc := 23) C 10 0 rfl rfl rfl ?_
    obtain ⟨t5, qt5, h⟩ := g_bd h
    refine v_getR (pc := 24) C 11 rfl lf_ScopeGraph_10.get (g_oB o1) rfl qt5 ?_
    refine v_iload_n (pc := 27) C 12 1 rfl rfl rfl ?_
    obtain ⟨o6, h⟩ := g_okk h
    obtain ⟨m7, qm7, h⟩ := g_bd h
    refine v_callV (pc := 28) C 13 rfl mf_X5_addFour clX5 rfl im_X5_addFour lm_ScopeGraph_71 (c_X5_addFour C.2.2.2.2.2.2.2.2.2.2.2 qm7) (by decide) rfl (g_oB o6) (Nat.le_of_ble_eq_true rfl) ⟨Nat.zero_le _, Nat.zero_le _⟩ rfl ?_
    change gV X w 0 0 (gRx X w "java/lang/UnsupportedOperationException" (rr.map (fun v => some (.int v))) rm) 6 31 [(0, .ref x0), (1, .int x1), (2, .int x2), (3, .int x3), (4, .int x4), (5, .int x5)] [] m7
    refine v_aload_n (pc := 31) C 14 0 rfl rfl rfl ?_
    obtain ⟨t9, qt9, h⟩ := g_bd h
    refine v_getR (pc := 32) C 15 rfl lf_ScopeGraph_10.get (g_oB o1) rfl qt9 ?_
    refine v_iload_n (pc := 35) C 16 2 rfl rfl rfl ?_
    obtain ⟨o10, h⟩ := g_okk h
    obtain ⟨m11, qm11, h⟩ := g_bd h
    refine v_callV (pc := 36) C 17 rfl mf_X5_addFour clX5 rfl im_X5_addFour lm_ScopeGraph_71 (c_X5_addFour C.2.2.2.2.2.2.2.2.2.2.2 qm11) (by decide) rfl (g_oB o10) (Nat.le_of_ble_eq_true rfl) ⟨Nat.zero_le _, Nat.zero_le _⟩ rfl ?_
    change gV X w 0 0 (gRx X w "java/lang/UnsupportedOperationException" (rr.map (fun v => some (.int v))) rm) 6 39 [(0, .ref x0), (1, .int x1), (2, .int x2), (3, .int x3), (4, .int x4), (5, .int x5)] [] m11
    refine v_aload_n (pc := 39) C 18 0 rfl rfl rfl ?_
    obtain ⟨t13, qt13, h⟩ := g_bd h
    refine v_getR (pc := 40) C 19 rfl lf_ScopeGraph_10.get (g_oB o1) rfl qt13 ?_
    refine v_iload_n (pc := 43) C 20 3 rfl rfl rfl ?_
    obtain ⟨o14, h⟩ := g_okk h
    obtain ⟨m15, qm15, h⟩ := g_bd h
    refine v_callV (pc := 44) C 21 rfl mf_X5_addFour clX5 rfl im_X5_addFour lm_ScopeGraph_71 (c_X5_addFour C.2.2.2.2.2.2.2.2.2.2.2 qm15) (by decide) rfl (g_oB o14) (Nat.le_of_ble_eq_true rfl) ⟨Nat.zero_le _, Nat.zero_le _⟩ rfl ?_
    change gV X w 0 0 (gRx X w "java/lang/UnsupportedOperationException" (rr.map (fun v => some (.int v))) rm) 6 47 [(0, .ref x0), (1, .int x1), (2, .int x2), (3, .int x3), (4, .int x4), (5, .int x5)] [] m15
    refine v_aload_n (pc := 47) C 22 0 rfl rfl rfl ?_
    obtain ⟨t17, qt17, h⟩ := g_bd h
    refine v_getR (pc := 48) C 23 rfl lf_ScopeGraph_10.get (g_oB o1) rfl qt17 ?_
    refine v_iload (pc := 51) C 24 4 rfl rfl ?_
    obtain ⟨o18, h⟩ := g_okk h
    obtain ⟨m19, qm19, h⟩ := g_bd h
    refine v_callV (pc := 53) C 25 rfl mf_X5_addFour clX5 rfl im_X5_addFour lm_ScopeGraph_71 (c_X5_addFour C.2.2.2.2.2.2.2.2.2.2.2 qm19) (by decide) rfl (g_oB o18) (Nat.le_of_ble_eq_true rfl) ⟨Nat.zero_le _, Nat.zero_le _⟩ rfl ?_
    change gV X w 0 0 (gRx X w "java/lang/UnsupportedOperationException" (rr.map (fun v => some (.int v))) rm) 6 56 [(0, .ref x0), (1, .int x1), (2, .int x2), (3, .int x3), (4, .int x4), (5, .int x5)] [] m19
    refine v_aload_n (pc := 56) C 26 0 rfl rfl rfl ?_
    obtain ⟨t21, qt21, h⟩ := g_bd h
    refine v_getR (pc := 57) C 27 rfl lf_ScopeGraph_10.get (g_oB o1) rfl qt21 ?_
    refine v_iload (pc := 60) C 28 5 rfl rfl ?_
    obtain ⟨o22, h⟩ := g_okk h
    obtain ⟨m23, qm23, h⟩ := g_bd h
    refine v_callV (pc := 62) C 29 rfl mf_X5_addFour clX5 rfl im_X5_addFour lm_ScopeGraph_71 (c_X5_addFour C.2.2.2.2.2.2.2.2.2.2.2 qm23) (by decide) rfl (g_oB o22) (Nat.le_of_ble_eq_true rfl) ⟨Nat.zero_le _, Nat.zero_le _⟩ rfl ?_
    change gV X w 0 0 (gRx X w "java/lang/UnsupportedOperationException" (rr.map (fun v => some (.int v))) rm) 6 65 [(0, .ref x0), (1, .int x1), (2, .int x2), (3, .int x3), (4, .int x4), (5, .int x5)] [] m23
    refine v_aload_n (pc := 65) C 30 0 rfl rfl rfl ?_
    obtain ⟨t25, qt25, h⟩ := g_bd h
    refine v_getR (pc := 66) C 31 rfl lf_ScopeGraph_10.get (g_oB o1) rfl qt25 ?_
    obtain ⟨o26, h⟩ := g_okk h
    refine v_getI (pc := 69) C 32 rfl lf_ScopeGraph_61.get (g_oB o26) rfl ?_
    obtain ⟨rfl, rfl⟩ := g_so h
    exact v_xiret (pc := 72) C 33 rfl hr
  · replace h := g_ifF c4 h
    obtain ⟨rfl, rfl⟩ := g_so h
    exact v_throw (pc := 13) C hl0 hE hT hR (by decide) 5 (k := 1000002) ew_U (hG _ C.2.2.2.2.2.2.2.2.2.2.1).2.2.2.2.2.1 rfl rfl rfl rfl rfl (Nat.le_of_ble_eq_true rfl)
theorem c_X7_feed {l : Launch} {w : gW} {rr : Option Int32} {rm : gM} (hJ : gJok w) (hG : gJs w) (hl0 : l.stackTraces = false) (hE : gJx w) {F : Nat} {x0 : Nat} {x1 : Int32} {x2 : Int32} {x3 : Int32} {x4 : Int32} {x5 : Int32} {m : gM} (h : f_X7_feed w.2.2.2.2.1 F x0 x1 x2 x3 x4 x5 m = some (rr, rm)) : gMx l 6 yX7_feed cX7_feed 6 (some .int) w [.ref x0, .int x1, .int x2, .int x3, .int x4, .int x5] m "java/lang/UnsupportedOperationException" (rr.map (fun v => some (.int v))) rm :=
  gMx.of hJ mf_X7_feed dk_X7_feed (Nat.le_of_ble_eq_true rfl) (fun X hX C hT hR hr => tf_X7_feed (F := F) C hG (by rw [hX]; exact hl0) hE hT hR hr h)
def f_X7_friends (sh : List gS) (F : Nat) (x0 : Nat) (x1 : Int32) (x2 : Int32) (m : gM) : Option (Option Int32 × gM) :=
  g_if (oB sh x0 7) ((m.2.2 x0 2).bind (fun t2 => g_if (oB sh t2 2) ((m.2.2 t2 0).bind (fun t4 => g_if (oB sh t4 0) ((f_X0_has sh F t4 x1 m).bind (fun q8 => nm q8.1 (fun r7 => nm q8.2 (fun m6 => if r7 = 0 then (some (none, m6)) else ((m6.2.2 x0 2).bind (fun t10 => g_if (oB sh t10 2) ((m6.2.2 t10 0).bind (fun t12 => g_if (oB sh t12 0) ((f_X0_has sh F t12 x2 m6).bind (fun q16 => nm q16.1 (fun r15 => nm q16.2 (fun m14 => if r15 = 0 then (some (none, m14)) else ((m14.2.2 x0 4).bind (fun t18 => (m14.2.2 x0 2).bind (fun t19 => g_if (oB sh t19 2) ((m14.2.2 t19 1).bind (fun t21 => g_if (oB sh t21 0) (g_if (oB sh t18 1) ((f_X1_friendsOf sh F t18 x1 (m14.1 t21 4) m14).bind (fun q26 => nm q26.1 (fun r25 => nm q26.2 (fun m24 => if (((r25.toUInt64 >>> (x2.toInt64.toUInt64 &&& Int64.toUInt64 63)).toInt64) &&& (1 : Int64)) = (0 : Int64) then (some (some 0, m24)) else (some (some 1, m24))))))))))))))))))))))))))))
set_option maxRecDepth 100000 in
set_option maxHeartbeats 4000000 in
theorem tf_X7_friends {X : gX} {w : gW} {rr : Option Int32} {rm : gM} (C : gC X w K_X7_friends 3 RX7 6) (hG : gJs w) (hl0 : X.2.1.stackTraces = false) (hE : gJx w) (hT : ∀ x ∈ X.2.2.2.2.2.2.2.2.2.exceptionTable.toList, False) (hR : X.2.2.2.1 = g_rx 6) (hr : X.2.2.2.2.2.2.2.2.1.sig.returnType = (some .boolean)) {F : Nat} {x0 : Nat} {x1 : Int32} {x2 : Int32} {m : gM} (h : f_X7_friends w.2.2.2.2.1 F x0 x1 x2 m = some (rr, rm)) : gV X w 0 0 (gRx X w "java/lang/IndexOutOfBoundsException" (rr.map (fun v => some (.int v))) rm) 3 0 [(0, .ref x0), (1, .int x1), (2, .int x2)] [] m := by
  unfold f_X7_friends at h
  refine v_aload_n (pc := 0) C 0 0 rfl rfl rfl ?_
  obtain ⟨o1, h⟩ := g_okk h
  obtain ⟨t2, qt2, h⟩ := g_bd h
  refine v_getR (pc := 1) C 1 rfl lf_ScopeGraph_22.get (g_oB o1) rfl qt2 ?_
  obtain ⟨o3, h⟩ := g_okk h
  obtain ⟨t4, qt4, h⟩ := g_bd h
  refine v_getR (pc := 4) C 2 rfl lf_ScopeGraph_100 (g_oB o3) rfl qt4 ?_
  refine v_iload_n (pc := 7) C 3 1 rfl rfl rfl ?_
  obtain ⟨o5, h⟩ := g_okk h
  obtain ⟨⟨r7, m6⟩, qm6, h⟩ := g_bd h
  replace h := g_nm (y := m6) (g_nm (y := r7) h rfl) rfl
  refine v_callV (pc := 8) C 4 rfl mf_X0_has clX0 rfl im_X0_has lm_ScopeGraph_148 (c_X0_has C.2.2.2.2.2.2.2.2.2.2.2 qm6) (by decide) rfl (g_oB o5) (Nat.le_of_ble_eq_true rfl) ⟨Nat.zero_le _, Nat.zero_le _⟩ rfl ?_
  change gV X w 0 0 (gRx X w "java/lang/IndexOutOfBoundsException" (rr.map (fun v => some (.int v))) rm) 3 11 [(0, .ref x0), (1, .int x1), (2, .int x2)] [.int r7] m6
  refine v_if_eq (pc := 11) C 5 28 rfl (by decide) (fun c9 => ?_) (fun c9 => ?_)
  · replace h := g_ifT c9 h
    obtain ⟨rfl, rfl⟩ := g_so h
    exact v_throw (pc := 28) C hl0 hE hT hR (by decide) 12 (k := 1000006) ew_I (hG _ C.2.2.2.2.2.2.2.2.2.2.1).2.2.2.2.2.2.2.2.2.1 rfl rfl rfl rfl rfl (Nat.le_of_ble_eq_true rfl)
  · replace h := g_ifF c9 h
    refine v_aload_n (pc := 14) C 6 0 rfl rfl rfl ?_
    obtain ⟨t10, qt10, h⟩ := g_bd h
    refine v_getR (pc := 15) C 7 rfl lf_ScopeGraph_22.get (g_oB o1) rfl qt10 ?_
    obtain ⟨o11, h⟩ := g_okk h
    obtain ⟨t12, qt12, h⟩ := g_bd h
    refine v_getR (pc := 18) C 8 rfl lf_ScopeGraph_100 (g_oB o11) rfl qt12 ?_
    refine v_iload_n (pc := 21) C 9 2 rfl rfl rfl ?_
    obtain ⟨o13, h⟩ := g_okk h
    obtain ⟨⟨r15, m14⟩, qm14, h⟩ := g_bd h
    replace h := g_nm (y := m14) (g_nm (y := r15) h rfl) rfl
    refine v_callV (pc := 22) C 10 rfl mf_X0_has clX0 rfl im_X0_has lm_ScopeGraph_148 (c_X0_has C.2.2.2.2.2.2.2.2.2.2.2 qm14) (by decide) rfl (g_oB o13) (Nat.le_of_ble_eq_true rfl) ⟨Nat.zero_le _, Nat.zero_le _⟩ rfl ?_
    change gV X w 0 0 (gRx X w "java/lang/IndexOutOfBoundsException" (rr.map (fun v => some (.int v))) rm) 3 25 [(0, .ref x0), (1, .int x1), (2, .int x2)] [.int r15] m14
    refine v_if_ne (pc := 25) C 11 38 rfl (by decide) (fun c17 => ?_) (fun c17 => ?_)
    · replace h := g_ifF c17 h
      refine v_aload_n (pc := 38) C 17 0 rfl rfl rfl ?_
      obtain ⟨t18, qt18, h⟩ := g_bd h
      refine v_getR (pc := 39) C 18 rfl lf_ScopeGraph_32.get (g_oB o1) rfl qt18 ?_
      refine v_iload_n (pc := 42) C 19 1 rfl rfl rfl ?_
      refine v_aload_n (pc := 43) C 20 0 rfl rfl rfl ?_
      obtain ⟨t19, qt19, h⟩ := g_bd h
      refine v_getR (pc := 44) C 21 rfl lf_ScopeGraph_22.get (g_oB o1) rfl qt19 ?_
      obtain ⟨o20, h⟩ := g_okk h
      obtain ⟨t21, qt21, h⟩ := g_bd h
      refine v_getR (pc := 47) C 22 rfl lf_ScopeGraph_107 (g_oB o20) rfl qt21 ?_
      obtain ⟨o22, h⟩ := g_okk h
      refine v_getI (pc := 50) C 23 rfl lf_ScopeGraph_104.get (g_oB o22) rfl ?_
      obtain ⟨o23, h⟩ := g_okk h
      obtain ⟨⟨r25, m24⟩, qm24, h⟩ := g_bd h
      replace h := g_nm (y := m24) (g_nm (y := r25) h rfl) rfl
      refine v_callV (pc := 53) C 24 rfl mf_X1_friendsOf clX1 rfl im_X1_friendsOf lm_ScopeGraph_162 (c_X1_friendsOf C.2.2.2.2.2.2.2.2.2.2.2 qm24) (by decide) rfl (g_oB o23) (Nat.le_of_ble_eq_true rfl) ⟨Nat.zero_le _, Nat.zero_le _⟩ rfl ?_
      change gV X w 0 0 (gRx X w "java/lang/IndexOutOfBoundsException" (rr.map (fun v => some (.int v))) rm) 3 56 [(0, .ref x0), (1, .int x1), (2, .int x2)] [.long r25] m24
      refine v_iload_n (pc := 56) C 25 2 rfl rfl rfl ?_
      refine v_lushr (pc := 57) C 26 rfl ?_
      refine v_lconst (pc := 58) C 27 1 rfl (by decide) ?_
      refine v_land (pc := 59) C 28 rfl ?_
      refine v_lconst (pc := 60) C 29 0 rfl (by decide) ?_
      refine v_lcmp (pc := 61) C 30 rfl ?_
      refine v_lif_eq (pc := 62) C 31 69 rfl (by decide) (fun c27 => ?_) (fun c27 => ?_)
      · replace h := g_ifT c27 h
        refine v_iconst (pc := 69) C 34 0 rfl (by decide) ?_
        obtain ⟨rfl, rfl⟩ := g_so h
        exact v_xzret (pc := 70) C 35 rfl hr (by decide)
      · replace h := g_ifF c27 h
        refine v_iconst (pc := 65) C 32 1 rfl (by decide) ?_
        refine v_goto (pc := 66) C 33 70 rfl (by decide) ?_
        obtain ⟨rfl, rfl⟩ := g_so h
        exact v_xzret (pc := 70) C 35 rfl hr (by decide)
    · replace h := g_ifT c17 h
      obtain ⟨rfl, rfl⟩ := g_so h
      exact v_throw (pc := 28) C hl0 hE hT hR (by decide) 12 (k := 1000006) ew_I (hG _ C.2.2.2.2.2.2.2.2.2.2.1).2.2.2.2.2.2.2.2.2.1 rfl rfl rfl rfl rfl (Nat.le_of_ble_eq_true rfl)
theorem c_X7_friends {l : Launch} {w : gW} {rr : Option Int32} {rm : gM} (hJ : gJok w) (hG : gJs w) (hl0 : l.stackTraces = false) (hE : gJx w) {F : Nat} {x0 : Nat} {x1 : Int32} {x2 : Int32} {m : gM} (h : f_X7_friends w.2.2.2.2.1 F x0 x1 x2 m = some (rr, rm)) : gMx l 6 yX7_friends cX7_friends 3 (some .boolean) w [.ref x0, .int x1, .int x2] m "java/lang/IndexOutOfBoundsException" (rr.map (fun v => some (.int v))) rm :=
  gMx.of hJ mf_X7_friends dk_X7_friends (Nat.le_of_ble_eq_true rfl) (fun X hX C hT hR hr => tf_X7_friends (F := F) C hG (by rw [hX]; exact hl0) hE hT hR hr h)
def f_X7_letter (sh : List gS) (F : Nat) (x0 : Nat) (x1 : Int32) (m : gM) : Option (Option Int32 × gM) :=
  if x1 < 0 then (some (none, m)) else (g_if (oB sh x0 7) ((m.2.2 x0 1).bind (fun t3 => g_if (oB sh t3 5) (if x1 < (m.1 t3 1) then ((m.2.2 x0 1).bind (fun t6 => g_if (oB sh t6 5) ((f_X5_at sh F t6 x1 m).bind (fun q10 => nm q10.1 (fun r9 => nm q10.2 (fun m8 => some (some r9, m8))))))) else (some (none, m))))))
set_option maxRecDepth 100000 in
set_option maxHeartbeats 4000000 in
theorem tf_X7_letter {X : gX} {w : gW} {rr : Option Int32} {rm : gM} (C : gC X w K_X7_letter 2 RX7 6) (hG : gJs w) (hl0 : X.2.1.stackTraces = false) (hE : gJx w) (hT : ∀ x ∈ X.2.2.2.2.2.2.2.2.2.exceptionTable.toList, False) (hR : X.2.2.2.1 = g_rx 6) (hr : X.2.2.2.2.2.2.2.2.1.sig.returnType = (some .int)) {F : Nat} {x0 : Nat} {x1 : Int32} {m : gM} (h : f_X7_letter w.2.2.2.2.1 F x0 x1 m = some (rr, rm)) : gV X w 0 0 (gRx X w "java/lang/IndexOutOfBoundsException" (rr.map (fun v => some (.int v))) rm) 2 0 [(0, .ref x0), (1, .int x1)] [] m := by
  unfold f_X7_letter at h
  refine v_iload_n (pc := 0) C 0 1 rfl rfl rfl ?_
  refine v_if_lt (pc := 1) C 1 15 rfl (by decide) (fun c1 => ?_) (fun c1 => ?_)
  · replace h := g_ifT c1 h
    obtain ⟨rfl, rfl⟩ := g_so h
    exact v_throw (pc := 15) C hl0 hE hT hR (by decide) 7 (k := 1000009) ew_I (hG _ C.2.2.2.2.2.2.2.2.2.2.1).2.2.2.2.2.2.2.2.2.2.2.2 rfl rfl rfl rfl rfl (Nat.le_of_ble_eq_true rfl)
  · replace h := g_ifF c1 h
    refine v_iload_n (pc := 4) C 2 1 rfl rfl rfl ?_
    refine v_aload_n (pc := 5) C 3 0 rfl rfl rfl ?_
    obtain ⟨o2, h⟩ := g_okk h
    obtain ⟨t3, qt3, h⟩ := g_bd h
    refine v_getR (pc := 6) C 4 rfl lf_ScopeGraph_16.get (g_oB o2) rfl qt3 ?_
    obtain ⟨o4, h⟩ := g_okk h
    refine v_getI (pc := 9) C 5 rfl lf_ScopeGraph_61.get (g_oB o4) rfl ?_
    refine v_icmp_lt (pc := 12) C 6 25 rfl (by decide) (fun c5 => ?_) (fun c5 => ?_)
    · replace h := g_ifT c5 h
      refine v_aload_n (pc := 25) C 12 0 rfl rfl rfl ?_
      obtain ⟨t6, qt6, h⟩ := g_bd h
      refine v_getR (pc := 26) C 13 rfl lf_ScopeGraph_16.get (g_oB o2) rfl qt6 ?_
      refine v_iload_n (pc := 29) C 14 1 rfl rfl rfl ?_
      obtain ⟨o7, h⟩ := g_okk h
      obtain ⟨⟨r9, m8⟩, qm8, h⟩ := g_bd h
      replace h := g_nm (y := m8) (g_nm (y := r9) h rfl) rfl
      refine v_callV (pc := 30) C 15 rfl mf_X5_at clX5 rfl im_X5_at lm_ScopeGraph_219 (c_X5_at C.2.2.2.2.2.2.2.2.2.2.2 qm8) (by decide) rfl (g_oB o7) (Nat.le_of_ble_eq_true rfl) ⟨Nat.zero_le _, Nat.zero_le _⟩ rfl ?_
      change gV X w 0 0 (gRx X w "java/lang/IndexOutOfBoundsException" (rr.map (fun v => some (.int v))) rm) 2 33 [(0, .ref x0), (1, .int x1)] [.int r9] m8
      obtain ⟨rfl, rfl⟩ := g_so h
      exact v_xiret (pc := 33) C 16 rfl hr
    · replace h := g_ifF c5 h
      obtain ⟨rfl, rfl⟩ := g_so h
      exact v_throw (pc := 15) C hl0 hE hT hR (by decide) 7 (k := 1000009) ew_I (hG _ C.2.2.2.2.2.2.2.2.2.2.1).2.2.2.2.2.2.2.2.2.2.2.2 rfl rfl rfl rfl rfl (Nat.le_of_ble_eq_true rfl)
theorem c_X7_letter {l : Launch} {w : gW} {rr : Option Int32} {rm : gM} (hJ : gJok w) (hG : gJs w) (hl0 : l.stackTraces = false) (hE : gJx w) {F : Nat} {x0 : Nat} {x1 : Int32} {m : gM} (h : f_X7_letter w.2.2.2.2.1 F x0 x1 m = some (rr, rm)) : gMx l 6 yX7_letter cX7_letter 2 (some .int) w [.ref x0, .int x1] m "java/lang/IndexOutOfBoundsException" (rr.map (fun v => some (.int v))) rm :=
  gMx.of hJ mf_X7_letter dk_X7_letter (Nat.le_of_ble_eq_true rfl) (fun X hX C hT hR hr => tf_X7_letter (F := F) C hG (by rw [hX]; exact hl0) hE hT hR hr h)
def b_X7_meant_67 (sh : List gS) (F : Nat) (k67 : Int32 → Int64 → Int32 → gM → Option (Option Int32 × gM)) (x2 : Int32) (x3 : Int64) (x5 : Int32) (m : gM) : Option (Option Int32 × gM) :=
  if x2 ≤ x5 then ((f_X7_lowest sh F x3 m).bind (fun q4 => nm q4.1 (fun r3 => nm q4.2 (fun m2 => some (some r3, m2))))) else (nm (x3 &&& (x3 - (1 : Int64))) (fun v5 => nm (x5 + Int32.ofInt 1) (fun v6 => k67 x2 v5 v6 m)))
set_option maxRecDepth 100000 in
set_option maxHeartbeats 4000000 in
theorem tb_X7_meant_67 {X : gX} {w : gW} {rr : Option Int32} {rm : gM} (C : gC X w K_X7_meant 6 RX7 6) (hG : gJs w) (hl0 : X.2.1.stackTraces = false) (hE : gJx w) (hT : ∀ x ∈ X.2.2.2.2.2.2.2.2.2.exceptionTable.toList, False) (hR : X.2.2.2.1 = g_rx 6) (hr : X.2.2.2.2.2.2.2.2.1.sig.returnType = (some .int)) {F : Nat} {k67 : Int32 → Int64 → Int32 → gM → Option (Option Int32 × gM)} (hk67 : ∀ (z2 : Int32) (z3 : Int64) (z5 : Int32) (m : gM), k67 z2 z3 z5 m = some (rr, rm) → gV X w 0 0 (gRx X w "java/lang/IndexOutOfBoundsException" (rr.map (fun v => some (.int v))) rm) 6 67 [(2, .int z2), (3, .long z3), (5, .int z5)] [] m) {x2 : Int32} {x3 : Int64} {x5 : Int32} {m : gM} (h : b_X7_meant_67 w.2.2.2.2.1 F k67 x2 x3 x5 m = some (rr, rm)) : gV X w 0 0 (gRx X w "java/lang/IndexOutOfBoundsException" (rr.map (fun v => some (.int v))) rm) 6 67 [(2, .int x2), (3, .long x3), (5, .int x5)] [] m := by
  unfold b_X7_meant_67 at h
  refine v_iload (pc := 67) C 34 2 rfl rfl ?_
  refine v_iload_n (pc := 69) C 35 0 rfl rfl rfl ?_
  refine v_icmp_ge (pc := 70) C 36 85 rfl (by decide) (fun c1 => ?_) (fun c1 => ?_)
  · replace h := g_ifT c1 h
    refine v_lload_n (pc := 85) C 45 1 rfl rfl rfl ?_
    obtain ⟨⟨r3, m2⟩, qm2, h⟩ := g_bd h
    replace h := g_nm (y := m2) (g_nm (y := r3) h rfl) rfl
    refine v_callS (pc := 86) C 46 rfl mf_X7_lowest sm_X7_lowest lm_ScopeGraph_186 (c_X7_lowest C.2.2.2.2.2.2.2.2.2.2.2 qm2) (by decide) rfl (Nat.le_of_ble_eq_true rfl) ⟨Nat.zero_le _, Nat.zero_le _⟩ rfl ?_
    change gV X w 0 0 (gRx X w "java/lang/IndexOutOfBoundsException" (rr.map (fun v => some (.int v))) rm) 6 89 [(2, .int x2), (3, .long x3), (5, .int x5)] [.int r3] m2
    obtain ⟨rfl, rfl⟩ := g_so h
    exact v_xiret (pc := 89) C 47 rfl hr
  · replace h := g_ifF c1 h
    refine v_lload_n (pc := 73) C 37 1 rfl rfl rfl ?_
    refine v_lload_n (pc := 74) C 38 1 rfl rfl rfl ?_
    refine v_lconst (pc := 75) C 39 1 rfl (by decide) ?_
    refine v_lsub (pc := 76) C 40 rfl ?_
    refine v_land (pc := 77) C 41 rfl ?_
    refine v_topJ (fun v5 ev5 => ?_)
    replace h := g_nm h ev5
    refine v_lstore_n (pc := 78) (lv' := [(3, .long v5), (2, .int x2), (5, .int x5)]) C 42 rfl rfl (by decide) rfl ?_
    refine v_iincN (pc := 79) C 43 2 (fun v6 => [(5, .int v6), (3, .long v5), (2, .int x2)]) rfl rfl (by decide) (fun _ => rfl) (fun v6 ev6 => ?_)
    replace h := g_nm h ev6
    refine v_goto (pc := 82) C 44 67 rfl (by decide) ?_
    refine v_sub [(2, .int x2), (3, .long v5), (5, .int v6)] [2, 1, 0] rfl ?_
    exact hk67 _ _ _ _ h
def l_X7_meant_67 (sh : List gS) (F : Nat) : Nat → Int32 → Int64 → Int32 → gM → Option (Option Int32 × gM)
  | 0 => fun _ _ _ _ => none
  | n + 1 => fun x2 x3 x5 m => b_X7_meant_67 sh F (l_X7_meant_67 sh F n) x2 x3 x5 m
theorem tl_X7_meant_67 {X : gX} {w : gW} {rr : Option Int32} {rm : gM} (C : gC X w K_X7_meant 6 RX7 6) (hG : gJs w) (hl0 : X.2.1.stackTraces = false) (hE : gJx w) (hT : ∀ x ∈ X.2.2.2.2.2.2.2.2.2.exceptionTable.toList, False) (hR : X.2.2.2.1 = g_rx 6) (hr : X.2.2.2.2.2.2.2.2.1.sig.returnType = (some .int)) {F : Nat} : ∀ (n : Nat) (x2 : Int32) (x3 : Int64) (x5 : Int32) (m : gM), l_X7_meant_67 w.2.2.2.2.1 F n x2 x3 x5 m = some (rr, rm) → gV X w 0 0 (gRx X w "java/lang/IndexOutOfBoundsException" (rr.map (fun v => some (.int v))) rm) 6 67 [(2, .int x2), (3, .long x3), (5, .int x5)] [] m := by
  intro n
  induction n with
  | zero => intro x2 x3 x5 m h; cases h
  | succ n ih => intro x2 x3 x5 m h; exact tb_X7_meant_67 (F := F) C hG hl0 hE hT hR hr ih h
def f_X7_meant (sh : List gS) (F : Nat) (x0 : Nat) (x1 : Int32) (x2 : Int32) (m : gM) : Option (Option Int32 × gM) :=
  g_if (oB sh x0 7) ((m.2.2 x0 2).bind (fun t2 => g_if (oB sh t2 2) ((m.2.2 t2 1).bind (fun t4 => g_if (oB sh t4 0) ((f_X0_has sh F t4 x1 m).bind (fun q8 => nm q8.1 (fun r7 => nm q8.2 (fun m6 => if r7 = 0 then (some (none, m6)) else (if x2 < 0 then (some (none, m6)) else ((m6.2.2 x0 4).bind (fun t11 => g_if (oB sh t11 1) ((m6.2.2 t11 1).bind (fun t13 => g_if (aB sh t13 .long x1) ((f_J13_bitCount_95d88 sh F (m6.2.1 t13 (x1).toNatClampNeg) m6).bind (fun q17 => nm q17.1 (fun r16 => nm q17.2 (fun m15 => if x2 < r16 then ((m15.2.2 x0 4).bind (fun t19 => g_if (oB sh t19 1) ((m15.2.2 t19 1).bind (fun t21 => g_if (aB sh t21 .long x1) (nm (m15.2.1 t21 (x1).toNatClampNeg) (fun v23 => l_X7_meant_67 sh F F x2 v23 0 m15)))))) else (some (none, m15)))))))))))))))))))
set_option maxRecDepth 100000 in
set_option maxHeartbeats 4000000 in
theorem tf_X7_meant {X : gX} {w : gW} {rr : Option Int32} {rm : gM} (C : gC X w K_X7_meant 6 RX7 6) (hG : gJs w) (hl0 : X.2.1.stackTraces = false) (hE : gJx w) (hT : ∀ x ∈ X.2.2.2.2.2.2.2.2.2.exceptionTable.toList, False) (hR : X.2.2.2.1 = g_rx 6) (hr : X.2.2.2.2.2.2.2.2.1.sig.returnType = (some .int)) {F : Nat} {x0 : Nat} {x1 : Int32} {x2 : Int32} {m : gM} (h : f_X7_meant w.2.2.2.2.1 F x0 x1 x2 m = some (rr, rm)) : gV X w 0 0 (gRx X w "java/lang/IndexOutOfBoundsException" (rr.map (fun v => some (.int v))) rm) 6 0 [(0, .ref x0), (1, .int x1), (2, .int x2)] [] m := by
  unfold f_X7_meant at h
  refine v_aload_n (pc := 0) C 0 0 rfl rfl rfl ?_
  obtain ⟨o1, h⟩ := g_okk h
  obtain ⟨t2, qt2, h⟩ := g_bd h
  refine v_getR (pc := 1) C 1 rfl lf_ScopeGraph_22.get (g_oB o1) rfl qt2 ?_
  obtain ⟨o3, h⟩ := g_okk h
  obtain ⟨t4, qt4, h⟩ := g_bd h
  refine v_getR (pc := 4) C 2 rfl lf_ScopeGraph_107 (g_oB o3) rfl qt4 ?_
  refine v_iload_n (pc := 7) C 3 1 rfl rfl rfl ?_
  obtain ⟨o5, h⟩ := g_okk h
  obtain ⟨⟨r7, m6⟩, qm6, h⟩ := g_bd h
  replace h := g_nm (y := m6) (g_nm (y := r7) h rfl) rfl
  refine v_callV (pc := 8) C 4 rfl mf_X0_has clX0 rfl im_X0_has lm_ScopeGraph_148 (c_X0_has C.2.2.2.2.2.2.2.2.2.2.2 qm6) (by decide) rfl (g_oB o5) (Nat.le_of_ble_eq_true rfl) ⟨Nat.zero_le _, Nat.zero_le _⟩ rfl ?_
  change gV X w 0 0 (gRx X w "java/lang/IndexOutOfBoundsException" (rr.map (fun v => some (.int v))) rm) 6 11 [(0, .ref x0), (1, .int x1), (2, .int x2)] [.int r7] m6
  refine v_if_ne (pc := 11) C 5 24 rfl (by decide) (fun c9 => ?_) (fun c9 => ?_)
  · replace h := g_ifF c9 h
    refine v_iload_n (pc := 24) C 11 2 rfl rfl rfl ?_
    refine v_if_lt (pc := 25) C 12 44 rfl (by decide) (fun c10 => ?_) (fun c10 => ?_)
    · replace h := g_ifT c10 h
      obtain ⟨rfl, rfl⟩ := g_so h
      exact v_throw (pc := 44) C hl0 hE hT hR (by decide) 21 (k := 1000008) ew_I (hG _ C.2.2.2.2.2.2.2.2.2.2.1).2.2.2.2.2.2.2.2.2.2.2.1 rfl rfl rfl rfl rfl (Nat.le_of_ble_eq_true rfl)
    · replace h := g_ifF c10 h
      refine v_iload_n (pc := 28) C 13 2 rfl rfl rfl ?_
      refine v_aload_n (pc := 29) C 14 0 rfl rfl rfl ?_
      obtain ⟨t11, qt11, h⟩ := g_bd h
      refine v_getR (pc := 30) C 15 rfl lf_ScopeGraph_32.get (g_oB o1) rfl qt11 ?_
      obtain ⟨o12, h⟩ := g_okk h
      obtain ⟨t13, qt13, h⟩ := g_bd h
      refine v_getR (pc := 33) C 16 rfl lf_ScopeGraph_175 (g_oB o12) rfl qt13 ?_
      refine v_iload_n (pc := 36) C 17 1 rfl rfl rfl ?_
      obtain ⟨b14, h⟩ := g_okk h
      refine v_lald' (pc := 37) C 18 rfl b14 ?_
      obtain ⟨⟨r16, m15⟩, qm15, h⟩ := g_bd h
      replace h := g_nm (y := m15) (g_nm (y := r16) h rfl) rfl
      refine v_callS (pc := 38) C 19 rfl mf_J13_bitCount_95d88 sm_J13_bitCount_95d88 lm_ScopeGraph_135 (c_J13_bitCount_95d88 C.2.2.2.2.2.2.2.2.2.2.2 qm15) (by decide) rfl (Nat.le_of_ble_eq_true rfl) ⟨Nat.zero_le _, Nat.zero_le _⟩ rfl ?_
      change gV X w 0 0 (gRx X w "java/lang/IndexOutOfBoundsException" (rr.map (fun v => some (.int v))) rm) 6 41 [(0, .ref x0), (1, .int x1), (2, .int x2)] [.int r16, .int x2] m15
      refine v_icmp_lt (pc := 41) C 20 54 rfl (by decide) (fun c18 => ?_) (fun c18 => ?_)
      · replace h := g_ifT c18 h
        refine v_aload_n (pc := 54) C 26 0 rfl rfl rfl ?_
        obtain ⟨t19, qt19, h⟩ := g_bd h
        refine v_getR (pc := 55) C 27 rfl lf_ScopeGraph_32.get (g_oB o1) rfl qt19 ?_
        obtain ⟨o20, h⟩ := g_okk h
        obtain ⟨t21, qt21, h⟩ := g_bd h
        refine v_getR (pc := 58) C 28 rfl lf_ScopeGraph_175 (g_oB o20) rfl qt21 ?_
        refine v_iload_n (pc := 61) C 29 1 rfl rfl rfl ?_
        obtain ⟨b22, h⟩ := g_okk h
        refine v_lald' (pc := 62) C 30 rfl b22 ?_
        refine v_topJ (fun v23 ev23 => ?_)
        replace h := g_nm h ev23
        refine v_lstore_n (pc := 63) (lv' := [(3, .long v23), (0, .ref x0), (1, .int x1), (2, .int x2)]) C 31 rfl rfl (by decide) rfl ?_
        refine v_iconst (pc := 64) C 32 0 rfl (by decide) ?_
        refine v_istore (pc := 65) (lv' := [(5, .int 0), (3, .long v23), (0, .ref x0), (1, .int x1), (2, .int x2)]) C 33 rfl (by decide) rfl ?_
        refine v_sub [(2, .int x2), (3, .long v23), (5, .int 0)] [4, 1, 0] rfl ?_
        exact tl_X7_meant_67 (F := F) C hG hl0 hE hT hR hr _ _ _ _ _ h
      · replace h := g_ifF c18 h
        obtain ⟨rfl, rfl⟩ := g_so h
        exact v_throw (pc := 44) C hl0 hE hT hR (by decide) 21 (k := 1000008) ew_I (hG _ C.2.2.2.2.2.2.2.2.2.2.1).2.2.2.2.2.2.2.2.2.2.2.1 rfl rfl rfl rfl rfl (Nat.le_of_ble_eq_true rfl)
  · replace h := g_ifT c9 h
    obtain ⟨rfl, rfl⟩ := g_so h
    exact v_throw (pc := 14) C hl0 hE hT hR (by decide) 6 (k := 1000007) ew_I (hG _ C.2.2.2.2.2.2.2.2.2.2.1).2.2.2.2.2.2.2.2.2.2.1 rfl rfl rfl rfl rfl (Nat.le_of_ble_eq_true rfl)
theorem c_X7_meant {l : Launch} {w : gW} {rr : Option Int32} {rm : gM} (hJ : gJok w) (hG : gJs w) (hl0 : l.stackTraces = false) (hE : gJx w) {F : Nat} {x0 : Nat} {x1 : Int32} {x2 : Int32} {m : gM} (h : f_X7_meant w.2.2.2.2.1 F x0 x1 x2 m = some (rr, rm)) : gMx l 6 yX7_meant cX7_meant 6 (some .int) w [.ref x0, .int x1, .int x2] m "java/lang/IndexOutOfBoundsException" (rr.map (fun v => some (.int v))) rm :=
  gMx.of hJ mf_X7_meant dk_X7_meant (Nat.le_of_ble_eq_true rfl) (fun X hX C hT hR hr => tf_X7_meant (F := F) C hG (by rw [hX]; exact hl0) hE hT hR hr h)
def f_X7_reference (sh : List gS) (F : Nat) (x0 : Nat) (x1 : Int32) (x2 : Int32) (m : gM) : Option (Option Int32 × gM) :=
  g_if (oB sh x0 7) ((m.2.2 x0 2).bind (fun t2 => g_if (oB sh t2 2) ((m.2.2 t2 1).bind (fun t4 => g_if (oB sh t4 0) ((f_X0_has sh F t4 x1 m).bind (fun q8 => nm q8.1 (fun r7 => nm q8.2 (fun m6 => if r7 = 0 then (some (none, m6)) else (if x2 = 0 then ((m6.2.2 x0 2).bind (fun t11 => g_if (oB sh t11 2) ((m6.2.2 t11 1).bind (fun t13 => g_if (oB sh t13 0) ((m6.2.2 t13 0).bind (fun t15 => g_if (aB sh t15 .int x1) (some (some (m6.1 t15 (x1).toNatClampNeg), m6)))))))) else (if x2 = 1 then ((m6.2.2 x0 2).bind (fun t18 => g_if (oB sh t18 2) ((m6.2.2 t18 1).bind (fun t20 => g_if (oB sh t20 0) ((m6.2.2 t20 1).bind (fun t22 => g_if (aB sh t22 .int x1) (some (some (m6.1 t22 (x1).toNatClampNeg), m6)))))))) else (if x2 = 2 then ((m6.2.2 x0 2).bind (fun t25 => g_if (oB sh t25 2) ((m6.2.2 t25 7).bind (fun t27 => g_if (aB sh t27 .int x1) (some (some (m6.1 t27 (x1).toNatClampNeg), m6)))))) else (if x2 = 3 then ((m6.2.2 x0 4).bind (fun t30 => g_if (oB sh t30 1) ((m6.2.2 t30 1).bind (fun t32 => g_if (aB sh t32 .long x1) ((f_J13_bitCount_95d88 sh F (m6.2.1 t32 (x1).toNatClampNeg) m6).bind (fun q36 => nm q36.1 (fun r35 => nm q36.2 (fun m34 => some (some r35, m34))))))))) else (if x2 = 4 then ((m6.2.2 x0 4).bind (fun t38 => g_if (oB sh t38 1) ((m6.2.2 t38 2).bind (fun t40 => g_if (aB sh t40 .int x1) (some (some (m6.1 t40 (x1).toNatClampNeg), m6)))))) else (if x2 = 5 then ((m6.2.2 x0 4).bind (fun t43 => g_if (oB sh t43 1) ((m6.2.2 t43 3).bind (fun t45 => g_if (aB sh t45 .int x1) (some (some (m6.1 t45 (x1).toNatClampNeg), m6)))))) else (some (none, m6))))))))))))))))
set_option maxRecDepth 100000 in
set_option maxHeartbeats 4000000 in
theorem tf_X7_reference {X : gX} {w : gW} {rr : Option Int32} {rm : gM} (C : gC X w K_X7_reference 3 RX7 6) (hG : gJs w) (hl0 : X.2.1.stackTraces = false) (hE : gJx w) (hT : ∀ x ∈ X.2.2.2.2.2.2.2.2.2.exceptionTable.toList, False) (hR : X.2.2.2.1 = g_rx 6) (hr : X.2.2.2.2.2.2.2.2.1.sig.returnType = (some .int)) {F : Nat} {x0 : Nat} {x1 : Int32} {x2 : Int32} {m : gM} (h : f_X7_reference w.2.2.2.2.1 F x0 x1 x2 m = some (rr, rm)) : gV X w 0 0 (gRx X w "java/lang/IndexOutOfBoundsException" (rr.map (fun v => some (.int v))) rm) 3 0 [(0, .ref x0), (1, .int x1), (2, .int x2)] [] m := by
  unfold f_X7_reference at h
  refine v_aload_n (pc := 0) C 0 0 rfl rfl rfl ?_
  obtain ⟨o1, h⟩ := g_okk h
  obtain ⟨t2, qt2, h⟩ := g_bd h
  refine v_getR (pc := 1) C 1 rfl lf_ScopeGraph_22.get (g_oB o1) rfl qt2 ?_
  obtain ⟨o3, h⟩ := g_okk h
  obtain ⟨t4, qt4, h⟩ := g_bd h
  refine v_getR (pc := 4) C 2 rfl lf_ScopeGraph_107 (g_oB o3) rfl qt4 ?_
  refine v_iload_n (pc := 7) C 3 1 rfl rfl rfl ?_
  obtain ⟨o5, h⟩ := g_okk h
  obtain ⟨⟨r7, m6⟩, qm6, h⟩ := g_bd h
  replace h := g_nm (y := m6) (g_nm (y := r7) h rfl) rfl
  refine v_callV (pc := 8) C 4 rfl mf_X0_has clX0 rfl im_X0_has lm_ScopeGraph_148 (c_X0_has C.2.2.2.2.2.2.2.2.2.2.2 qm6) (by decide) rfl (g_oB o5) (Nat.le_of_ble_eq_true rfl) ⟨Nat.zero_le _, Nat.zero_le _⟩ rfl ?_
  change gV X w 0 0 (gRx X w "java/lang/IndexOutOfBoundsException" (rr.map (fun v => some (.int v))) rm) 3 11 [(0, .ref x0), (1, .int x1), (2, .int x2)] [.int r7] m6
  refine v_if_ne (pc := 11) C 5 24 rfl (by decide) (fun c9 => ?_) (fun c9 => ?_)
  · replace h := g_ifF c9 h
    refine v_iload_n (pc := 24) C 11 2 rfl rfl rfl ?_
    by_cases c10 : x2 = 0
    · replace h := g_ifT c10 h
      refine v_tableIn (pc := 25) C 12 64 rfl (by rw [c10]; decide) (by rw [c10]; decide) (by rw [c10]; rfl) (by decide) ?_
      refine v_aload_n (pc := 64) C 13 0 rfl rfl rfl ?_
      obtain ⟨t11, qt11, h⟩ := g_bd h
      refine v_getR (pc := 65) C 14 rfl lf_ScopeGraph_22.get (g_oB o1) rfl qt11 ?_
      obtain ⟨o12, h⟩ := g_okk h
      obtain ⟨t13, qt13, h⟩ := g_bd h
      refine v_getR (pc := 68) C 15 rfl lf_ScopeGraph_107 (g_oB o12) rfl qt13 ?_
      obtain ⟨o14, h⟩ := g_okk h
      obtain ⟨t15, qt15, h⟩ := g_bd h
      refine v_getR (pc := 71) C 16 rfl lf_ScopeGraph_154 (g_oB o14) rfl qt15 ?_
      refine v_iload_n (pc := 74) C 17 1 rfl rfl rfl ?_
      obtain ⟨b16, h⟩ := g_okk h
      refine v_iald' (pc := 75) C 18 rfl b16 ?_
      obtain ⟨rfl, rfl⟩ := g_so h
      exact v_xiret (pc := 76) C 19 rfl hr
    · replace h := g_ifF c10 h
      have zc10 := g_tne (n := 0) (by decide) c10
      by_cases c17 : x2 = 1
      · replace h := g_ifT c17 h
        refine v_tableIn (pc := 25) C 12 77 rfl (by rw [c17]; decide) (by rw [c17]; decide) (by rw [c17]; rfl) (by decide) ?_
        refine v_aload_n (pc := 77) C 20 0 rfl rfl rfl ?_
        obtain ⟨t18, qt18, h⟩ := g_bd h
        refine v_getR (pc := 78) C 21 rfl lf_ScopeGraph_22.get (g_oB o1) rfl qt18 ?_
        obtain ⟨o19, h⟩ := g_okk h
        obtain ⟨t20, qt20, h⟩ := g_bd h
        refine v_getR (pc := 81) C 22 rfl lf_ScopeGraph_107 (g_oB o19) rfl qt20 ?_
        obtain ⟨o21, h⟩ := g_okk h
        obtain ⟨t22, qt22, h⟩ := g_bd h
        refine v_getR (pc := 84) C 23 rfl lf_ScopeGraph_156 (g_oB o21) rfl qt22 ?_
        refine v_iload_n (pc := 87) C 24 1 rfl rfl rfl ?_
        obtain ⟨b23, h⟩ := g_okk h
        refine v_iald' (pc := 88) C 25 rfl b23 ?_
        obtain ⟨rfl, rfl⟩ := g_so h
        exact v_xiret (pc := 89) C 26 rfl hr
      · replace h := g_ifF c17 h
        have zc17 := g_tne (n := 1) (by decide) c17
        by_cases c24 : x2 = 2
        · replace h := g_ifT c24 h
          refine v_tableIn (pc := 25) C 12 90 rfl (by rw [c24]; decide) (by rw [c24]; decide) (by rw [c24]; rfl) (by decide) ?_
          refine v_aload_n (pc := 90) C 27 0 rfl rfl rfl ?_
          obtain ⟨t25, qt25, h⟩ := g_bd h
          refine v_getR (pc := 91) C 28 rfl lf_ScopeGraph_22.get (g_oB o1) rfl qt25 ?_
          obtain ⟨o26, h⟩ := g_okk h
          obtain ⟨t27, qt27, h⟩ := g_bd h
          refine v_getR (pc := 94) C 29 rfl lf_ScopeGraph_172 (g_oB o26) rfl qt27 ?_
          refine v_iload_n (pc := 97) C 30 1 rfl rfl rfl ?_
          obtain ⟨b28, h⟩ := g_okk h
          refine v_iald' (pc := 98) C 31 rfl b28 ?_
          obtain ⟨rfl, rfl⟩ := g_so h
          exact v_xiret (pc := 99) C 32 rfl hr
        · replace h := g_ifF c24 h
          have zc24 := g_tne (n := 2) (by decide) c24
          by_cases c29 : x2 = 3
          · replace h := g_ifT c29 h
            refine v_tableIn (pc := 25) C 12 100 rfl (by rw [c29]; decide) (by rw [c29]; decide) (by rw [c29]; rfl) (by decide) ?_
            refine v_aload_n (pc := 100) C 33 0 rfl rfl rfl ?_
            obtain ⟨t30, qt30, h⟩ := g_bd h
            refine v_getR (pc := 101) C 34 rfl lf_ScopeGraph_32.get (g_oB o1) rfl qt30 ?_
            obtain ⟨o31, h⟩ := g_okk h
            obtain ⟨t32, qt32, h⟩ := g_bd h
            refine v_getR (pc := 104) C 35 rfl lf_ScopeGraph_175 (g_oB o31) rfl qt32 ?_
            refine v_iload_n (pc := 107) C 36 1 rfl rfl rfl ?_
            obtain ⟨b33, h⟩ := g_okk h
            refine v_lald' (pc := 108) C 37 rfl b33 ?_
            obtain ⟨⟨r35, m34⟩, qm34, h⟩ := g_bd h
            replace h := g_nm (y := m34) (g_nm (y := r35) h rfl) rfl
            refine v_callS (pc := 109) C 38 rfl mf_J13_bitCount_95d88 sm_J13_bitCount_95d88 lm_ScopeGraph_135 (c_J13_bitCount_95d88 C.2.2.2.2.2.2.2.2.2.2.2 qm34) (by decide) rfl (Nat.le_of_ble_eq_true rfl) ⟨Nat.zero_le _, Nat.zero_le _⟩ rfl ?_
            change gV X w 0 0 (gRx X w "java/lang/IndexOutOfBoundsException" (rr.map (fun v => some (.int v))) rm) 3 112 [(0, .ref x0), (1, .int x1), (2, .int x2)] [.int r35] m34
            obtain ⟨rfl, rfl⟩ := g_so h
            exact v_xiret (pc := 112) C 39 rfl hr
          · replace h := g_ifF c29 h
            have zc29 := g_tne (n := 3) (by decide) c29
            by_cases c37 : x2 = 4
            · replace h := g_ifT c37 h
              refine v_tableIn (pc := 25) C 12 113 rfl (by rw [c37]; decide) (by rw [c37]; decide) (by rw [c37]; rfl) (by decide) ?_
              refine v_aload_n (pc := 113) C 40 0 rfl rfl rfl ?_
              obtain ⟨t38, qt38, h⟩ := g_bd h
              refine v_getR (pc := 114) C 41 rfl lf_ScopeGraph_32.get (g_oB o1) rfl qt38 ?_
              obtain ⟨o39, h⟩ := g_okk h
              obtain ⟨t40, qt40, h⟩ := g_bd h
              refine v_getR (pc := 117) C 42 rfl lf_ScopeGraph_178 (g_oB o39) rfl qt40 ?_
              refine v_iload_n (pc := 120) C 43 1 rfl rfl rfl ?_
              obtain ⟨b41, h⟩ := g_okk h
              refine v_iald' (pc := 121) C 44 rfl b41 ?_
              obtain ⟨rfl, rfl⟩ := g_so h
              exact v_xiret (pc := 122) C 45 rfl hr
            · replace h := g_ifF c37 h
              have zc37 := g_tne (n := 4) (by decide) c37
              by_cases c42 : x2 = 5
              · replace h := g_ifT c42 h
                refine v_tableIn (pc := 25) C 12 123 rfl (by rw [c42]; decide) (by rw [c42]; decide) (by rw [c42]; rfl) (by decide) ?_
                refine v_aload_n (pc := 123) C 46 0 rfl rfl rfl ?_
                obtain ⟨t43, qt43, h⟩ := g_bd h
                refine v_getR (pc := 124) C 47 rfl lf_ScopeGraph_32.get (g_oB o1) rfl qt43 ?_
                obtain ⟨o44, h⟩ := g_okk h
                obtain ⟨t45, qt45, h⟩ := g_bd h
                refine v_getR (pc := 127) C 48 rfl lf_ScopeGraph_181 (g_oB o44) rfl qt45 ?_
                refine v_iload_n (pc := 130) C 49 1 rfl rfl rfl ?_
                obtain ⟨b46, h⟩ := g_okk h
                refine v_iald' (pc := 131) C 50 rfl b46 ?_
                obtain ⟨rfl, rfl⟩ := g_so h
                exact v_xiret (pc := 132) C 51 rfl hr
              · replace h := g_ifF c42 h
                have zc42 := g_tne (n := 5) (by decide) c42
                refine v_tableOut (pc := 25) C 12 133 rfl (by omega) (by decide) ?_
                obtain ⟨rfl, rfl⟩ := g_so h
                exact v_throw (pc := 133) C hl0 hE hT hR (by decide) 52 (k := 1000004) ew_I (hG _ C.2.2.2.2.2.2.2.2.2.2.1).2.2.2.2.2.2.2.1 rfl rfl rfl rfl rfl (Nat.le_of_ble_eq_true rfl)
  · replace h := g_ifT c9 h
    obtain ⟨rfl, rfl⟩ := g_so h
    exact v_throw (pc := 14) C hl0 hE hT hR (by decide) 6 (k := 1000007) ew_I (hG _ C.2.2.2.2.2.2.2.2.2.2.1).2.2.2.2.2.2.2.2.2.2.1 rfl rfl rfl rfl rfl (Nat.le_of_ble_eq_true rfl)
theorem c_X7_reference {l : Launch} {w : gW} {rr : Option Int32} {rm : gM} (hJ : gJok w) (hG : gJs w) (hl0 : l.stackTraces = false) (hE : gJx w) {F : Nat} {x0 : Nat} {x1 : Int32} {x2 : Int32} {m : gM} (h : f_X7_reference w.2.2.2.2.1 F x0 x1 x2 m = some (rr, rm)) : gMx l 6 yX7_reference cX7_reference 3 (some .int) w [.ref x0, .int x1, .int x2] m "java/lang/IndexOutOfBoundsException" (rr.map (fun v => some (.int v))) rm :=
  gMx.of hJ mf_X7_reference dk_X7_reference (Nat.le_of_ble_eq_true rfl) (fun X hX C hT hR hr => tf_X7_reference (F := F) C hG (by rw [hX]; exact hl0) hE hT hR hr h)
def f_X7_rename (sh : List gS) (F : Nat) (x0 : Nat) (x1 : Int32) (m : gM) : Option (Option Int32 × gM) :=
  g_if (oB sh x0 7) ((m.2.2 x0 2).bind (fun t2 => g_if (oB sh t2 2) ((m.2.2 t2 0).bind (fun t4 => g_if (oB sh t4 0) ((f_X0_has sh F t4 x1 m).bind (fun q8 => nm q8.1 (fun r7 => nm q8.2 (fun m6 => if r7 = 0 then (some (none, m6)) else ((m6.2.2 x0 6).bind (fun t10 => g_if (oB sh t10 3) ((m6.2.2 t10 0).bind (fun t12 => (m6.2.2 x0 0).bind (fun t13 => g_if (oB sh t12 6) ((f_X6_areJustOneName sh F t12 t13 m6).bind (fun q17 => nm q17.1 (fun r16 => nm q17.2 (fun m15 => if r16 = 0 then (some (some (-2), m15)) else ((m15.2.2 x0 2).bind (fun t19 => g_if (oB sh t19 2) ((m15.2.2 t19 1).bind (fun t21 => g_if (oB sh t21 0) (nm (m15.1 t21 4) (fun v23 => (m15.2.2 x0 4).bind (fun t24 => g_if (oB sh t24 1) ((f_X1_friendsOf sh F t24 x1 v23 m15).bind (fun q28 => nm q28.1 (fun r27 => nm q28.2 (fun m26 => (m26.2.2 x0 5).bind (fun t29 => (m26.2.2 x0 2).bind (fun t30 => (m26.2.2 x0 4).bind (fun t31 => g_if (oB sh t29 1) ((f_X1_supposeName sh F t29 t30 t31 r27 t12 m26).bind (fun m33 => (m33.2.2 x0 7).bind (fun t35 => (m33.2.2 x0 2).bind (fun t36 => (m33.2.2 x0 5).bind (fun t37 => g_if (oB sh t35 4) ((f_X4_resolve sh F t35 t36 t37 m33).bind (fun m39 => (m39.2.2 x0 5).bind (fun t41 => (m39.2.2 x0 4).bind (fun t42 => g_if (oB sh t41 1) ((f_X1_agreesWith sh F t41 t42 v23 m39).bind (fun q46 => nm q46.1 (fun r45 => nm q46.2 (fun m44 => if r45 = 0 then (some (some (-3), m44)) else ((f_J13_bitCount_95d88 sh F r27 m44).bind (fun q50 => nm q50.1 (fun r49 => nm q50.2 (fun m48 => (m48.2.2 x0 4).bind (fun t51 => g_if (oB sh t51 1) ((f_X1_usersOf sh F t51 r27 v23 m48).bind (fun q55 => nm q55.1 (fun r54 => nm q55.2 (fun m53 => nm (r49 + r54) (fun v56 => (m53.2.2 x0 2).bind (fun t57 => g_if (oB sh t57 2) ((m53.2.2 t57 0).bind (fun t59 => g_if (oB sh t59 0) ((f_X0_lengthOf sh F t59 x1 m53).bind (fun q63 => nm q63.1 (fun r62 => nm q63.2 (fun m61 => (m61.2.2 x0 1).bind (fun t64 => g_if (oB sh t64 5) (if ((m61.1 t64 1) + (v56 * ((m61.1 t12 2) - r62))) ≤ (4000 : Int32) then ((f_X7_writeNewText sh F x0 r27 r62 t12 m61).bind (fun m67 => (f_X7_swapTapes sh F x0 m67).bind (fun m69 => (m69.2.2 x0 0).bind (fun t71 => g_if (oB sh t71 5) (nm (gsI m69 t71 1 0) (fun m73 => (m73.2.2 x0 4).bind (fun t74 => (m73.2.2 x0 5).bind (fun t75 => nm (gsR m73 x0 4 (some t75)) (fun m76 => nm (gsR m76 x0 5 (some t74)) (fun m77 => some (some v56, m77))))))))))) else (some (some (-4), m61)))))))))))))))))))))))))))))))))))))))))))))))))))))))))))))))))
set_option maxRecDepth 100000 in
set_option maxHeartbeats 4000000 in
theorem tf_X7_rename {X : gX} {w : gW} {rr : Option Int32} {rm : gM} (C : gC X w K_X7_rename 9 RX7 9) (hG : gJs w) (hl0 : X.2.1.stackTraces = false) (hE : gJx w) (hT : ∀ x ∈ X.2.2.2.2.2.2.2.2.2.exceptionTable.toList, False) (hR : X.2.2.2.1 = g_rx 9) (hr : X.2.2.2.2.2.2.2.2.1.sig.returnType = (some .int)) {F : Nat} {x0 : Nat} {x1 : Int32} {m : gM} (h : f_X7_rename w.2.2.2.2.1 F x0 x1 m = some (rr, rm)) : gV X w 0 0 (gRx X w "java/lang/IndexOutOfBoundsException" (rr.map (fun v => some (.int v))) rm) 9 0 [(0, .ref x0), (1, .int x1)] [] m := by
  unfold f_X7_rename at h
  refine v_aload_n (pc := 0) C 0 0 rfl rfl rfl ?_
  obtain ⟨o1, h⟩ := g_okk h
  obtain ⟨t2, qt2, h⟩ := g_bd h
  refine v_getR (pc := 1) C 1 rfl lf_ScopeGraph_22.get (g_oB o1) rfl qt2 ?_
  obtain ⟨o3, h⟩ := g_okk h
  obtain ⟨t4, qt4, h⟩ := g_bd h
  refine v_getR (pc := 4) C 2 rfl lf_ScopeGraph_100 (g_oB o3) rfl qt4 ?_
  refine v_iload_n (pc := 7) C 3 1 rfl rfl rfl ?_
  obtain ⟨o5, h⟩ := g_okk h
  obtain ⟨⟨r7, m6⟩, qm6, h⟩ := g_bd h
  replace h := g_nm (y := m6) (g_nm (y := r7) h rfl) rfl
  refine v_callV (pc := 8) C 4 rfl mf_X0_has clX0 rfl im_X0_has lm_ScopeGraph_148 (c_X0_has C.2.2.2.2.2.2.2.2.2.2.2 qm6) (by decide) rfl (g_oB o5) (Nat.le_of_ble_eq_true rfl) ⟨Nat.zero_le _, Nat.zero_le _⟩ rfl ?_
  change gV X w 0 0 (gRx X w "java/lang/IndexOutOfBoundsException" (rr.map (fun v => some (.int v))) rm) 9 11 [(0, .ref x0), (1, .int x1)] [.int r7] m6
  refine v_if_ne (pc := 11) C 5 24 rfl (by decide) (fun c9 => ?_) (fun c9 => ?_)
  · replace h := g_ifF c9 h
    refine v_aload_n (pc := 24) C 11 0 rfl rfl rfl ?_
    obtain ⟨t10, qt10, h⟩ := g_bd h
    refine v_getR (pc := 25) C 12 rfl lf_ScopeGraph_44 (g_oB o1) rfl qt10 ?_
    obtain ⟨o11, h⟩ := g_okk h
    obtain ⟨t12, qt12, h⟩ := g_bd h
    refine v_getR (pc := 28) C 13 rfl lf_ScopeGraph_189 (g_oB o11) rfl qt12 ?_
    refine v_astore_n (pc := 31) (lv' := [(2, .ref t12), (0, .ref x0), (1, .int x1)]) C 14 rfl rfl (by decide) rfl ?_
    refine v_aload_n (pc := 32) C 15 0 rfl rfl rfl ?_
    refine v_aload_n (pc := 33) C 16 1 rfl rfl rfl ?_
    obtain ⟨t13, qt13, h⟩ := g_bd h
    refine v_getR (pc := 34) C 17 rfl lf_ScopeGraph_10.get (g_oB o1) rfl qt13 ?_
    obtain ⟨o14, h⟩ := g_okk h
    obtain ⟨⟨r16, m15⟩, qm15, h⟩ := g_bd h
    replace h := g_nm (y := m15) (g_nm (y := r16) h rfl) rfl
    refine v_callV (pc := 37) C 18 rfl mf_X6_areJustOneName clX6 rfl im_X6_areJustOneName lm_ScopeGraph_193 (c_X6_areJustOneName C.2.2.2.2.2.2.2.2.2.2.2 hG qm15) (by decide) rfl (g_oB o14) (Nat.le_of_ble_eq_true rfl) ⟨Nat.zero_le _, Nat.zero_le _⟩ rfl ?_
    change gV X w 0 0 (gRx X w "java/lang/IndexOutOfBoundsException" (rr.map (fun v => some (.int v))) rm) 9 40 [(2, .ref t12), (0, .ref x0), (1, .int x1)] [.int r16] m15
    refine v_if_ne (pc := 40) C 19 46 rfl (by decide) (fun c18 => ?_) (fun c18 => ?_)
    · replace h := g_ifF c18 h
      refine v_aload_n (pc := 46) C 22 1 rfl rfl rfl ?_
      obtain ⟨t19, qt19, h⟩ := g_bd h
      refine v_getR (pc := 47) C 23 rfl lf_ScopeGraph_22.get (g_oB o1) rfl qt19 ?_
      obtain ⟨o20, h⟩ := g_okk h
      obtain ⟨t21, qt21, h⟩ := g_bd h
      refine v_getR (pc := 50) C 24 rfl lf_ScopeGraph_107 (g_oB o20) rfl qt21 ?_
      obtain ⟨o22, h⟩ := g_okk h
      refine v_getI (pc := 53) C 25 rfl lf_ScopeGraph_104.get (g_oB o22) rfl ?_
      refine v_topI (fun v23 ev23 => ?_)
      replace h := g_nm h ev23
      refine v_istore_n (pc := 56) (lv' := [(3, .int v23), (2, .ref t12), (0, .ref x0), (1, .int x1)]) C 26 rfl rfl (by decide) rfl ?_
      refine v_aload_n (pc := 57) C 27 2 rfl rfl rfl ?_
      obtain ⟨t24, qt24, h⟩ := g_bd h
      refine v_getR (pc := 58) C 28 rfl lf_ScopeGraph_32.get (g_oB o1) rfl qt24 ?_
      refine v_iload_n (pc := 61) C 29 3 rfl rfl rfl ?_
      refine v_iload_n (pc := 62) C 30 0 rfl rfl rfl ?_
      obtain ⟨o25, h⟩ := g_okk h
      obtain ⟨⟨r27, m26⟩, qm26, h⟩ := g_bd h
      replace h := g_nm (y := m26) (g_nm (y := r27) h rfl) rfl
      refine v_callV (pc := 63) C 31 rfl mf_X1_friendsOf clX1 rfl im_X1_friendsOf lm_ScopeGraph_162 (c_X1_friendsOf C.2.2.2.2.2.2.2.2.2.2.2 qm26) (by decide) rfl (g_oB o25) (Nat.le_of_ble_eq_true rfl) ⟨Nat.zero_le _, Nat.zero_le _⟩ rfl ?_
      change gV X w 0 0 (gRx X w "java/lang/IndexOutOfBoundsException" (rr.map (fun v => some (.int v))) rm) 9 66 [(3, .int v23), (2, .ref t12), (0, .ref x0), (1, .int x1)] [.long r27] m26
      refine v_lstore (pc := 66) (lv' := [(4, .long r27), (3, .int v23), (2, .ref t12), (0, .ref x0), (1, .int x1)]) C 32 rfl (by decide) rfl ?_
      refine v_aload_n (pc := 68) C 33 3 rfl rfl rfl ?_
      obtain ⟨t29, qt29, h⟩ := g_bd h
      refine v_getR (pc := 69) C 34 rfl lf_ScopeGraph_36.get (g_oB o1) rfl qt29 ?_
      refine v_aload_n (pc := 72) C 35 3 rfl rfl rfl ?_
      obtain ⟨t30, qt30, h⟩ := g_bd h
      refine v_getR (pc := 73) C 36 rfl lf_ScopeGraph_22.get (g_oB o1) rfl qt30 ?_
      refine v_aload_n (pc := 76) C 37 3 rfl rfl rfl ?_
      obtain ⟨t31, qt31, h⟩ := g_bd h
      refine v_getR (pc := 77) C 38 rfl lf_ScopeGraph_32.get (g_oB o1) rfl qt31 ?_
      refine v_lload (pc := 80) C 39 0 rfl rfl ?_
      refine v_aload_n (pc := 82) C 40 2 rfl rfl rfl ?_
      obtain ⟨o32, h⟩ := g_okk h
      obtain ⟨m33, qm33, h⟩ := g_bd h
      refine v_callV (pc := 83) C 41 rfl mf_X1_supposeName clX1 rfl im_X1_supposeName lm_ScopeGraph_199 (c_X1_supposeName C.2.2.2.2.2.2.2.2.2.2.2 qm33) (by decide) rfl (g_oB o32) (Nat.le_of_ble_eq_true rfl) ⟨Nat.zero_le _, Nat.zero_le _⟩ rfl ?_
      change gV X w 0 0 (gRx X w "java/lang/IndexOutOfBoundsException" (rr.map (fun v => some (.int v))) rm) 9 86 [(4, .long r27), (3, .int v23), (2, .ref t12), (0, .ref x0), (1, .int x1)] [] m33
      refine v_aload_n (pc := 86) C 42 3 rfl rfl rfl ?_
      obtain ⟨t35, qt35, h⟩ := g_bd h
      refine v_getR (pc := 87) C 43 rfl lf_ScopeGraph_53 (g_oB o1) rfl qt35 ?_
      refine v_aload_n (pc := 90) C 44 3 rfl rfl rfl ?_
      obtain ⟨t36, qt36, h⟩ := g_bd h
      refine v_getR (pc := 91) C 45 rfl lf_ScopeGraph_22.get (g_oB o1) rfl qt36 ?_
      refine v_aload_n (pc := 94) C 46 3 rfl rfl rfl ?_
      obtain ⟨t37, qt37, h⟩ := g_bd h
      refine v_getR (pc := 95) C 47 rfl lf_ScopeGraph_36.get (g_oB o1) rfl qt37 ?_
      obtain ⟨o38, h⟩ := g_okk h
      obtain ⟨m39, qm39, h⟩ := g_bd h
      refine v_callV (pc := 98) C 48 rfl mf_X4_resolve clX4 rfl im_X4_resolve lm_ScopeGraph_90 (c_X4_resolve C.2.2.2.2.2.2.2.2.2.2.2 qm39) (by decide) rfl (g_oB o38) (Nat.le_of_ble_eq_true rfl) ⟨Nat.zero_le _, Nat.zero_le _⟩ rfl ?_
      change gV X w 0 0 (gRx X w "java/lang/IndexOutOfBoundsException" (rr.map (fun v => some (.int v))) rm) 9 101 [(4, .long r27), (3, .int v23), (2, .ref t12), (0, .ref x0), (1, .int x1)] [] m39
      refine v_aload_n (pc := 101) C 49 3 rfl rfl rfl ?_
      obtain ⟨t41, qt41, h⟩ := g_bd h
      refine v_getR (pc := 102) C 50 rfl lf_ScopeGraph_36.get (g_oB o1) rfl qt41 ?_
      refine v_aload_n (pc := 105) C 51 3 rfl rfl rfl ?_
      obtain ⟨t42, qt42, h⟩ := g_bd h
      refine v_getR (pc := 106) C 52 rfl lf_ScopeGraph_32.get (g_oB o1) rfl qt42 ?_
      refine v_iload_n (pc := 109) C 53 1 rfl rfl rfl ?_
      obtain ⟨o43, h⟩ := g_okk h
      obtain ⟨⟨r45, m44⟩, qm44, h⟩ := g_bd h
      replace h := g_nm (y := m44) (g_nm (y := r45) h rfl) rfl
      refine v_callV (pc := 110) C 54 rfl mf_X1_agreesWith clX1 rfl im_X1_agreesWith lm_ScopeGraph_203 (c_X1_agreesWith C.2.2.2.2.2.2.2.2.2.2.2 qm44) (by decide) rfl (g_oB o43) (Nat.le_of_ble_eq_true rfl) ⟨Nat.zero_le _, Nat.zero_le _⟩ rfl ?_
      change gV X w 0 0 (gRx X w "java/lang/IndexOutOfBoundsException" (rr.map (fun v => some (.int v))) rm) 9 113 [(4, .long r27), (3, .int v23), (2, .ref t12), (0, .ref x0), (1, .int x1)] [.int r45] m44
      refine v_if_ne (pc := 113) C 55 119 rfl (by decide) (fun c47 => ?_) (fun c47 => ?_)
      · replace h := g_ifF c47 h
        refine v_lload (pc := 119) C 58 0 rfl rfl ?_
        obtain ⟨⟨r49, m48⟩, qm48, h⟩ := g_bd h
        replace h := g_nm (y := m48) (g_nm (y := r49) h rfl) rfl
        refine v_callS (pc := 121) C 59 rfl mf_J13_bitCount_95d88 sm_J13_bitCount_95d88 lm_ScopeGraph_135 (c_J13_bitCount_95d88 C.2.2.2.2.2.2.2.2.2.2.2 qm48) (by decide) rfl (Nat.le_of_ble_eq_true rfl) ⟨Nat.zero_le _, Nat.zero_le _⟩ rfl ?_
        change gV X w 0 0 (gRx X w "java/lang/IndexOutOfBoundsException" (rr.map (fun v => some (.int v))) rm) 9 124 [(4, .long r27), (3, .int v23), (2, .ref t12), (0, .ref x0), (1, .int x1)] [.int r49] m48
        refine v_aload_n (pc := 124) C 60 3 rfl rfl rfl ?_
        obtain ⟨t51, qt51, h⟩ := g_bd h
        refine v_getR (pc := 125) C 61 rfl lf_ScopeGraph_32.get (g_oB o1) rfl qt51 ?_
        refine v_lload (pc := 128) C 62 0 rfl rfl ?_
        refine v_iload_n (pc := 130) C 63 1 rfl rfl rfl ?_
        obtain ⟨o52, h⟩ := g_okk h
        obtain ⟨⟨r54, m53⟩, qm53, h⟩ := g_bd h
        replace h := g_nm (y := m53) (g_nm (y := r54) h rfl) rfl
        refine v_callV (pc := 131) C 64 rfl mf_X1_usersOf clX1 rfl im_X1_usersOf lm_ScopeGraph_166 (c_X1_usersOf C.2.2.2.2.2.2.2.2.2.2.2 qm53) (by decide) rfl (g_oB o52) (Nat.le_of_ble_eq_true rfl) ⟨Nat.zero_le _, Nat.zero_le _⟩ rfl ?_
        change gV X w 0 0 (gRx X w "java/lang/IndexOutOfBoundsException" (rr.map (fun v => some (.int v))) rm) 9 134 [(4, .long r27), (3, .int v23), (2, .ref t12), (0, .ref x0), (1, .int x1)] [.int r54, .int r49] m53
        refine v_iadd (pc := 134) C 65 rfl ?_
        refine v_topI (fun v56 ev56 => ?_)
        replace h := g_nm h ev56
        refine v_istore (pc := 135) (lv' := [(6, .int v56), (4, .long r27), (3, .int v23), (2, .ref t12), (0, .ref x0), (1, .int x1)]) C 66 rfl (by decide) rfl ?_
        refine v_aload_n (pc := 137) C 67 4 rfl rfl rfl ?_
        obtain ⟨t57, qt57, h⟩ := g_bd h
        refine v_getR (pc := 138) C 68 rfl lf_ScopeGraph_22.get (g_oB o1) rfl qt57 ?_
        obtain ⟨o58, h⟩ := g_okk h
        obtain ⟨t59, qt59, h⟩ := g_bd h
        refine v_getR (pc := 141) C 69 rfl lf_ScopeGraph_100 (g_oB o58) rfl qt59 ?_
        refine v_iload_n (pc := 144) C 70 5 rfl rfl rfl ?_
        obtain ⟨o60, h⟩ := g_okk h
        obtain ⟨⟨r62, m61⟩, qm61, h⟩ := g_bd h
        replace h := g_nm (y := m61) (g_nm (y := r62) h rfl) rfl
        refine v_callV (pc := 145) C 71 rfl mf_X0_lengthOf clX0 rfl im_X0_lengthOf lm_ScopeGraph_207 (c_X0_lengthOf C.2.2.2.2.2.2.2.2.2.2.2 qm61) (by decide) rfl (g_oB o60) (Nat.le_of_ble_eq_true rfl) ⟨Nat.zero_le _, Nat.zero_le _⟩ rfl ?_
        change gV X w 0 0 (gRx X w "java/lang/IndexOutOfBoundsException" (rr.map (fun v => some (.int v))) rm) 9 148 [(6, .int v56), (4, .long r27), (3, .int v23), (2, .ref t12), (0, .ref x0), (1, .int x1)] [.int r62] m61
        refine v_istore (pc := 148) (lv' := [(7, .int r62), (6, .int v56), (4, .long r27), (3, .int v23), (2, .ref t12), (0, .ref x0), (1, .int x1)]) C 72 rfl (by decide) rfl ?_
        refine v_aload_n (pc := 150) C 73 5 rfl rfl rfl ?_
        obtain ⟨t64, qt64, h⟩ := g_bd h
        refine v_getR (pc := 151) C 74 rfl lf_ScopeGraph_16.get (g_oB o1) rfl qt64 ?_
        obtain ⟨o65, h⟩ := g_okk h
        refine v_getI (pc := 154) C 75 rfl lf_ScopeGraph_61.get (g_oB o65) rfl ?_
        refine v_iload (pc := 157) C 76 1 rfl rfl ?_
        refine v_aload_n (pc := 159) C 77 4 rfl rfl rfl ?_
        refine v_getI (pc := 160) C 78 rfl lf_ScopeGraph_210.get (g_oB o14) rfl ?_
        refine v_iload (pc := 163) C 79 0 rfl rfl ?_
        refine v_isub (pc := 165) C 80 rfl ?_
        refine v_imul (pc := 166) C 81 rfl ?_
        refine v_iadd (pc := 167) C 82 rfl ?_
        refine v_sipush (pc := 168) C 83 4000 rfl (by decide) ?_
        refine v_icmp_le (pc := 171) C 84 177 rfl (by decide) (fun c66 => ?_) (fun c66 => ?_)
        · replace h := g_ifT c66 h
          refine v_aload_n (pc := 177) C 87 5 rfl rfl rfl ?_
          refine v_lload (pc := 178) C 88 2 rfl rfl ?_
          refine v_iload (pc := 180) C 89 0 rfl rfl ?_
          refine v_aload_n (pc := 182) C 90 4 rfl rfl rfl ?_
          obtain ⟨m67, qm67, h⟩ := g_bd h
          refine v_callV (pc := 183) C 91 rfl mf_X7_writeNewText clX7 rfl im_X7_writeNewText lm_ScopeGraph_213 (c_X7_writeNewText C.2.2.2.2.2.2.2.2.2.2.2 qm67) (by decide) rfl (g_oB o1) (Nat.le_of_ble_eq_true rfl) ⟨Nat.zero_le _, Nat.zero_le _⟩ rfl ?_
          change gV X w 0 0 (gRx X w "java/lang/IndexOutOfBoundsException" (rr.map (fun v => some (.int v))) rm) 9 186 [(7, .int r62), (6, .int v56), (4, .long r27), (3, .int v23), (2, .ref t12), (0, .ref x0), (1, .int x1)] [] m67
          refine v_aload_n (pc := 186) C 92 5 rfl rfl rfl ?_
          obtain ⟨m69, qm69, h⟩ := g_bd h
          refine v_callV (pc := 187) C 93 rfl mf_X7_swapTapes clX7 rfl im_X7_swapTapes lm_ScopeGraph_84 (c_X7_swapTapes C.2.2.2.2.2.2.2.2.2.2.2 qm69) (by decide) rfl (g_oB o1) (Nat.le_of_ble_eq_true rfl) ⟨Nat.zero_le _, Nat.zero_le _⟩ rfl ?_
          change gV X w 0 0 (gRx X w "java/lang/IndexOutOfBoundsException" (rr.map (fun v => some (.int v))) rm) 9 190 [(7, .int r62), (6, .int v56), (4, .long r27), (3, .int v23), (2, .ref t12), (0, .ref x0), (1, .int x1)] [] m69
          refine v_aload_n (pc := 190) C 94 5 rfl rfl rfl ?_
          obtain ⟨t71, qt71, h⟩ := g_bd h
          refine v_getR (pc := 191) C 95 rfl lf_ScopeGraph_10.get (g_oB o1) rfl qt71 ?_
          refine v_iconst (pc := 194) C 96 0 rfl (by decide) ?_
          obtain ⟨o72, h⟩ := g_okk h
          refine v_putI (pc := 195) C 97 rfl lf_ScopeGraph_61 (g_oB o72) rfl ?_
          refine v_topM (fun m73 em73 => ?_)
          replace h := g_nm h em73
          refine v_aload_n (pc := 198) C 98 5 rfl rfl rfl ?_
          obtain ⟨t74, qt74, h⟩ := g_bd h
          refine v_getR (pc := 199) C 99 rfl lf_ScopeGraph_32.get (g_oB o1) rfl qt74 ?_
          refine v_astore (pc := 202) (lv' := [(8, .ref t74), (7, .int r62), (6, .int v56), (4, .long r27), (3, .int v23), (2, .ref t12), (0, .ref x0), (1, .int x1)]) C 100 rfl (by decide) rfl ?_
          refine v_aload_n (pc := 204) C 101 6 rfl rfl rfl ?_
          refine v_aload_n (pc := 205) C 102 6 rfl rfl rfl ?_
          obtain ⟨t75, qt75, h⟩ := g_bd h
          refine v_getR (pc := 206) C 103 rfl lf_ScopeGraph_36.get (g_oB o1) rfl qt75 ?_
          refine v_putR (pc := 209) C 104 rfl lf_ScopeGraph_32 (g_oB o1) rfl ?_
          refine v_topM (fun m76 em76 => ?_)
          replace h := g_nm h em76
          refine v_aload_n (pc := 212) C 105 6 rfl rfl rfl ?_
          refine v_aload (pc := 213) C 106 0 rfl rfl ?_
          refine v_putR (pc := 215) C 107 rfl lf_ScopeGraph_36 (g_oB o1) rfl ?_
          refine v_topM (fun m77 em77 => ?_)
          replace h := g_nm h em77
          refine v_iload (pc := 218) C 108 2 rfl rfl ?_
          obtain ⟨rfl, rfl⟩ := g_so h
          exact v_xiret (pc := 220) C 109 rfl hr
        · replace h := g_ifF c66 h
          refine v_bipush (pc := 174) C 85 (-4) rfl (by decide) ?_
          obtain ⟨rfl, rfl⟩ := g_so h
          exact v_xiret (pc := 176) C 86 rfl hr
      · replace h := g_ifT c47 h
        refine v_bipush (pc := 116) C 56 (-3) rfl (by decide) ?_
        obtain ⟨rfl, rfl⟩ := g_so h
        exact v_xiret (pc := 118) C 57 rfl hr
    · replace h := g_ifT c18 h
      refine v_bipush (pc := 43) C 20 (-2) rfl (by decide) ?_
      obtain ⟨rfl, rfl⟩ := g_so h
      exact v_xiret (pc := 45) C 21 rfl hr
  · replace h := g_ifT c9 h
    obtain ⟨rfl, rfl⟩ := g_so h
    exact v_throw (pc := 14) C hl0 hE hT hR (by decide) 6 (k := 1000006) ew_I (hG _ C.2.2.2.2.2.2.2.2.2.2.1).2.2.2.2.2.2.2.2.2.1 rfl rfl rfl rfl rfl (Nat.le_of_ble_eq_true rfl)
theorem c_X7_rename {l : Launch} {w : gW} {rr : Option Int32} {rm : gM} (hJ : gJok w) (hG : gJs w) (hl0 : l.stackTraces = false) (hE : gJx w) {F : Nat} {x0 : Nat} {x1 : Int32} {m : gM} (h : f_X7_rename w.2.2.2.2.1 F x0 x1 m = some (rr, rm)) : gMx l 9 yX7_rename cX7_rename 9 (some .int) w [.ref x0, .int x1] m "java/lang/IndexOutOfBoundsException" (rr.map (fun v => some (.int v))) rm :=
  gMx.of hJ mf_X7_rename dk_X7_rename (Nat.le_of_ble_eq_true rfl) (fun X hX C hT hR hr => tf_X7_rename (F := F) C hG (by rw [hX]; exact hl0) hE hT hR hr h)
def f_X7_scope (sh : List gS) (F : Nat) (x0 : Nat) (x1 : Int32) (x2 : Int32) (m : gM) : Option (Option Int32 × gM) :=
  if x1 < 0 then (some (none, m)) else (g_if (oB sh x0 7) ((m.2.2 x0 2).bind (fun t3 => g_if (oB sh t3 2) (if x1 < (m.1 t3 11) then (if x2 = 0 then ((m.2.2 x0 2).bind (fun t7 => g_if (oB sh t7 2) ((m.2.2 t7 2).bind (fun t9 => g_if (aB sh t9 .int x1) (some (some (m.1 t9 (x1).toNatClampNeg), m)))))) else (if x2 = 1 then ((m.2.2 x0 2).bind (fun t12 => g_if (oB sh t12 2) ((m.2.2 t12 3).bind (fun t14 => g_if (aB sh t14 .int x1) (some (some (m.1 t14 (x1).toNatClampNeg), m)))))) else (if x2 = 2 then ((m.2.2 x0 2).bind (fun t17 => g_if (oB sh t17 2) ((m.2.2 t17 4).bind (fun t19 => g_if (aB sh t19 .long x1) ((f_J13_bitCount_95d88 sh F (m.2.1 t19 (x1).toNatClampNeg) m).bind (fun q23 => nm q23.1 (fun r22 => nm q23.2 (fun m21 => some (some r22, m21))))))))) else (if x2 = 3 then ((m.2.2 x0 2).bind (fun t25 => g_if (oB sh t25 2) ((f_X2_referencesIn sh F t25 x1 m).bind (fun q29 => nm q29.1 (fun r28 => nm q29.2 (fun m27 => some (some r28, m27))))))) else (if x2 = 4 then ((m.2.2 x0 2).bind (fun t31 => g_if (oB sh t31 2) ((f_X2_importsOf sh F t31 x1 m).bind (fun q35 => nm q35.1 (fun r34 => nm q35.2 (fun m33 => some (some r34, m33))))))) else (some (none, m))))))) else (some (none, m))))))
set_option maxRecDepth 100000 in
set_option maxHeartbeats 4000000 in
theorem tf_X7_scope {X : gX} {w : gW} {rr : Option Int32} {rm : gM} (C : gC X w K_X7_scope 3 RX7 6) (hG : gJs w) (hl0 : X.2.1.stackTraces = false) (hE : gJx w) (hT : ∀ x ∈ X.2.2.2.2.2.2.2.2.2.exceptionTable.toList, False) (hR : X.2.2.2.1 = g_rx 6) (hr : X.2.2.2.2.2.2.2.2.1.sig.returnType = (some .int)) {F : Nat} {x0 : Nat} {x1 : Int32} {x2 : Int32} {m : gM} (h : f_X7_scope w.2.2.2.2.1 F x0 x1 x2 m = some (rr, rm)) : gV X w 0 0 (gRx X w "java/lang/IndexOutOfBoundsException" (rr.map (fun v => some (.int v))) rm) 3 0 [(0, .ref x0), (1, .int x1), (2, .int x2)] [] m := by
  unfold f_X7_scope at h
  refine v_iload_n (pc := 0) C 0 1 rfl rfl rfl ?_
  refine v_if_lt (pc := 1) C 1 15 rfl (by decide) (fun c1 => ?_) (fun c1 => ?_)
  · replace h := g_ifT c1 h
    obtain ⟨rfl, rfl⟩ := g_so h
    exact v_throw (pc := 15) C hl0 hE hT hR (by decide) 7 (k := 1000005) ew_I (hG _ C.2.2.2.2.2.2.2.2.2.2.1).2.2.2.2.2.2.2.2.1 rfl rfl rfl rfl rfl (Nat.le_of_ble_eq_true rfl)
  · replace h := g_ifF c1 h
    refine v_iload_n (pc := 4) C 2 1 rfl rfl rfl ?_
    refine v_aload_n (pc := 5) C 3 0 rfl rfl rfl ?_
    obtain ⟨o2, h⟩ := g_okk h
    obtain ⟨t3, qt3, h⟩ := g_bd h
    refine v_getR (pc := 6) C 4 rfl lf_ScopeGraph_22.get (g_oB o2) rfl qt3 ?_
    obtain ⟨o4, h⟩ := g_okk h
    refine v_getI (pc := 9) C 5 rfl lf_ScopeGraph_93.get (g_oB o4) rfl ?_
    refine v_icmp_lt (pc := 12) C 6 25 rfl (by decide) (fun c5 => ?_) (fun c5 => ?_)
    · replace h := g_ifT c5 h
      refine v_iload_n (pc := 25) C 12 2 rfl rfl rfl ?_
      by_cases c6 : x2 = 0
      · replace h := g_ifT c6 h
        refine v_tableIn (pc := 26) C 13 60 rfl (by rw [c6]; decide) (by rw [c6]; decide) (by rw [c6]; rfl) (by decide) ?_
        refine v_aload_n (pc := 60) C 14 0 rfl rfl rfl ?_
        obtain ⟨t7, qt7, h⟩ := g_bd h
        refine v_getR (pc := 61) C 15 rfl lf_ScopeGraph_22.get (g_oB o2) rfl qt7 ?_
        obtain ⟨o8, h⟩ := g_okk h
        obtain ⟨t9, qt9, h⟩ := g_bd h
        refine v_getR (pc := 64) C 16 rfl lf_ScopeGraph_124 (g_oB o8) rfl qt9 ?_
        refine v_iload_n (pc := 67) C 17 1 rfl rfl rfl ?_
        obtain ⟨b10, h⟩ := g_okk h
        refine v_iald' (pc := 68) C 18 rfl b10 ?_
        obtain ⟨rfl, rfl⟩ := g_so h
        exact v_xiret (pc := 69) C 19 rfl hr
      · replace h := g_ifF c6 h
        have zc6 := g_tne (n := 0) (by decide) c6
        by_cases c11 : x2 = 1
        · replace h := g_ifT c11 h
          refine v_tableIn (pc := 26) C 13 70 rfl (by rw [c11]; decide) (by rw [c11]; decide) (by rw [c11]; rfl) (by decide) ?_
          refine v_aload_n (pc := 70) C 20 0 rfl rfl rfl ?_
          obtain ⟨t12, qt12, h⟩ := g_bd h
          refine v_getR (pc := 71) C 21 rfl lf_ScopeGraph_22.get (g_oB o2) rfl qt12 ?_
          obtain ⟨o13, h⟩ := g_okk h
          obtain ⟨t14, qt14, h⟩ := g_bd h
          refine v_getR (pc := 74) C 22 rfl lf_ScopeGraph_128 (g_oB o13) rfl qt14 ?_
          refine v_iload_n (pc := 77) C 23 1 rfl rfl rfl ?_
          obtain ⟨b15, h⟩ := g_okk h
          refine v_iald' (pc := 78) C 24 rfl b15 ?_
          obtain ⟨rfl, rfl⟩ := g_so h
          exact v_xiret (pc := 79) C 25 rfl hr
        · replace h := g_ifF c11 h
          have zc11 := g_tne (n := 1) (by decide) c11
          by_cases c16 : x2 = 2
          · replace h := g_ifT c16 h
            refine v_tableIn (pc := 26) C 13 80 rfl (by rw [c16]; decide) (by rw [c16]; decide) (by rw [c16]; rfl) (by decide) ?_
            refine v_aload_n (pc := 80) C 26 0 rfl rfl rfl ?_
            obtain ⟨t17, qt17, h⟩ := g_bd h
            refine v_getR (pc := 81) C 27 rfl lf_ScopeGraph_22.get (g_oB o2) rfl qt17 ?_
            obtain ⟨o18, h⟩ := g_okk h
            obtain ⟨t19, qt19, h⟩ := g_bd h
            refine v_getR (pc := 84) C 28 rfl lf_ScopeGraph_131 (g_oB o18) rfl qt19 ?_
            refine v_iload_n (pc := 87) C 29 1 rfl rfl rfl ?_
            obtain ⟨b20, h⟩ := g_okk h
            refine v_lald' (pc := 88) C 30 rfl b20 ?_
            obtain ⟨⟨r22, m21⟩, qm21, h⟩ := g_bd h
            replace h := g_nm (y := m21) (g_nm (y := r22) h rfl) rfl
            refine v_callS (pc := 89) C 31 rfl mf_J13_bitCount_95d88 sm_J13_bitCount_95d88 lm_ScopeGraph_135 (c_J13_bitCount_95d88 C.2.2.2.2.2.2.2.2.2.2.2 qm21) (by decide) rfl (Nat.le_of_ble_eq_true rfl) ⟨Nat.zero_le _, Nat.zero_le _⟩ rfl ?_
            change gV X w 0 0 (gRx X w "java/lang/IndexOutOfBoundsException" (rr.map (fun v => some (.int v))) rm) 3 92 [(0, .ref x0), (1, .int x1), (2, .int x2)] [.int r22] m21
            obtain ⟨rfl, rfl⟩ := g_so h
            exact v_xiret (pc := 92) C 32 rfl hr
          · replace h := g_ifF c16 h
            have zc16 := g_tne (n := 2) (by decide) c16
            by_cases c24 : x2 = 3
            · replace h := g_ifT c24 h
              refine v_tableIn (pc := 26) C 13 93 rfl (by rw [c24]; decide) (by rw [c24]; decide) (by rw [c24]; rfl) (by decide) ?_
              refine v_aload_n (pc := 93) C 33 0 rfl rfl rfl ?_
              obtain ⟨t25, qt25, h⟩ := g_bd h
              refine v_getR (pc := 94) C 34 rfl lf_ScopeGraph_22.get (g_oB o2) rfl qt25 ?_
              refine v_iload_n (pc := 97) C 35 1 rfl rfl rfl ?_
              obtain ⟨o26, h⟩ := g_okk h
              obtain ⟨⟨r28, m27⟩, qm27, h⟩ := g_bd h
              replace h := g_nm (y := m27) (g_nm (y := r28) h rfl) rfl
              refine v_callV (pc := 98) C 36 rfl mf_X2_referencesIn clX2 rfl im_X2_referencesIn lm_ScopeGraph_141 (c_X2_referencesIn C.2.2.2.2.2.2.2.2.2.2.2 qm27) (by decide) rfl (g_oB o26) (Nat.le_of_ble_eq_true rfl) ⟨Nat.zero_le _, Nat.zero_le _⟩ rfl ?_
              change gV X w 0 0 (gRx X w "java/lang/IndexOutOfBoundsException" (rr.map (fun v => some (.int v))) rm) 3 101 [(0, .ref x0), (1, .int x1), (2, .int x2)] [.int r28] m27
              obtain ⟨rfl, rfl⟩ := g_so h
              exact v_xiret (pc := 101) C 37 rfl hr
            · replace h := g_ifF c24 h
              have zc24 := g_tne (n := 3) (by decide) c24
              by_cases c30 : x2 = 4
              · replace h := g_ifT c30 h
                refine v_tableIn (pc := 26) C 13 102 rfl (by rw [c30]; decide) (by rw [c30]; decide) (by rw [c30]; rfl) (by decide) ?_
                refine v_aload_n (pc := 102) C 38 0 rfl rfl rfl ?_
                obtain ⟨t31, qt31, h⟩ := g_bd h
                refine v_getR (pc := 103) C 39 rfl lf_ScopeGraph_22.get (g_oB o2) rfl qt31 ?_
                refine v_iload_n (pc := 106) C 40 1 rfl rfl rfl ?_
                obtain ⟨o32, h⟩ := g_okk h
                obtain ⟨⟨r34, m33⟩, qm33, h⟩ := g_bd h
                replace h := g_nm (y := m33) (g_nm (y := r34) h rfl) rfl
                refine v_callV (pc := 107) C 41 rfl mf_X2_importsOf clX2 rfl im_X2_importsOf lm_ScopeGraph_145 (c_X2_importsOf C.2.2.2.2.2.2.2.2.2.2.2 qm33) (by decide) rfl (g_oB o32) (Nat.le_of_ble_eq_true rfl) ⟨Nat.zero_le _, Nat.zero_le _⟩ rfl ?_
                change gV X w 0 0 (gRx X w "java/lang/IndexOutOfBoundsException" (rr.map (fun v => some (.int v))) rm) 3 110 [(0, .ref x0), (1, .int x1), (2, .int x2)] [.int r34] m33
                obtain ⟨rfl, rfl⟩ := g_so h
                exact v_xiret (pc := 110) C 42 rfl hr
              · replace h := g_ifF c30 h
                have zc30 := g_tne (n := 4) (by decide) c30
                refine v_tableOut (pc := 26) C 13 111 rfl (by omega) (by decide) ?_
                obtain ⟨rfl, rfl⟩ := g_so h
                exact v_throw (pc := 111) C hl0 hE hT hR (by decide) 43 (k := 1000004) ew_I (hG _ C.2.2.2.2.2.2.2.2.2.2.1).2.2.2.2.2.2.2.1 rfl rfl rfl rfl rfl (Nat.le_of_ble_eq_true rfl)
    · replace h := g_ifF c5 h
      obtain ⟨rfl, rfl⟩ := g_so h
      exact v_throw (pc := 15) C hl0 hE hT hR (by decide) 7 (k := 1000005) ew_I (hG _ C.2.2.2.2.2.2.2.2.2.2.1).2.2.2.2.2.2.2.2.1 rfl rfl rfl rfl rfl (Nat.le_of_ble_eq_true rfl)
theorem c_X7_scope {l : Launch} {w : gW} {rr : Option Int32} {rm : gM} (hJ : gJok w) (hG : gJs w) (hl0 : l.stackTraces = false) (hE : gJx w) {F : Nat} {x0 : Nat} {x1 : Int32} {x2 : Int32} {m : gM} (h : f_X7_scope w.2.2.2.2.1 F x0 x1 x2 m = some (rr, rm)) : gMx l 6 yX7_scope cX7_scope 3 (some .int) w [.ref x0, .int x1, .int x2] m "java/lang/IndexOutOfBoundsException" (rr.map (fun v => some (.int v))) rm :=
  gMx.of hJ mf_X7_scope dk_X7_scope (Nat.le_of_ble_eq_true rfl) (fun X hX C hT hR hr => tf_X7_scope (F := F) C hG (by rw [hX]; exact hl0) hE hT hR hr h)
