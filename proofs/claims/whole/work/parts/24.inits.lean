theorem gEx.n0 {w w' : gW} (h : gEx w w') {z : Nat} (hz : w.2.2.2.1 ≤ z) : w'.2.2.2.1 ≤ z := by rw [h.2.2.1]; exact hz
theorem gV_widen {X : gX} {w : gW} {kc ks kc0 ks0 nL pc : Nat} {Q : State → Prop} {lv : List (Nat × Value)} {st : List Value} {μ : gM} (h1 : kc0 ≤ kc) (h2 : ks0 ≤ ks) (k : gV X w kc ks Q nL pc lv st μ) : gV X w kc0 ks0 Q nL pc lv st μ := fun H locs ls hP hD hS hl => W.widen h1 h2 (k H locs ls hP hD hS hl)
set_option maxRecDepth 100000 in
def f_X5_init (sh : List gS) (F : Nat) (x0 : Nat) (m : gM) : Option (List gS × gM) :=
  g_if (oB sh x0 5) (g_if (kB sh) (nm (sh ++ [.inr (.byte, 4000)]) (fun sh1 => nm (gz m sh.length) (fun m2 => nm (gsR m2 x0 0 (some (sh.length))) (fun m10 => some (sh1, m10))))))
set_option maxRecDepth 100000 in
set_option maxHeartbeats 8000000 in
theorem tf_X5_init {X : gX} {w : gW} {rs : List gS} {rm : gM} (C : gC X w K_X5_init 1 RX5 1) (hR : X.2.2.2.1 = g_rn 1 1 4000) (hr : X.2.2.2.2.2.2.2.2.1.sig.returnType = none) (hin : X.2.2.2.2.2.2.2.2.1.name = "<init>") (hA : w.2.2.2.1 ≤ X.2.2.2.2.1.heap.size) {m : gM} (wf : gWf w.2.2.2.2.1 m) {F : Nat} {x0 : Nat} (h : f_X5_init w.2.2.2.2.1 F x0 m = some (rs, rm)) : gV X w 0 0 (gRN X w rs rm 1 4000) 1 0 [(0, .ref x0)] [] m := by
  have hx := gEx.refl w
  unfold f_X5_init at h
  obtain ⟨o0, h⟩ := g_okk h
  have hsA := g_oB o0
  have ltA := g_olt o0
  refine v_aload_n (pc := 0) C 0 0 rfl rfl rfl ?_
  refine v_objInit (pc := 1) C 1 rfl (g_tb 112 (by decide +kernel) rfl) (g_tb 105 (by decide +kernel) rfl) (g_tb 106 (by decide +kernel) (by decide +kernel)) (by decide) (Nat.le_of_ble_eq_true rfl) ?_
  refine v_aload_n (pc := 4) C 2 0 rfl rfl rfl ?_
  refine v_sipush (pc := 5) C 3 4000 rfl (by decide) ?_
  obtain ⟨k4, h⟩ := g_okk h
  have kk4 := g_kB k4
  refine v_newa (pc := 8) C 4 (4000) rfl rfl (Or.inr (Or.inr (Or.inl rfl))) (g_tb 122 (by decide +kernel) rfl) (by decide) (by decide) (by decide) wf (gLv_ref (by omega) gLv_nil) (gLs_ref (by omega) gLs_nil) kk4 (hx.n0 hA) ⟨by rw [hR]; decide, by rw [hR]; decide⟩ (fun w3 xw3 sw3 => ?_)
  replace h := g_nm (y := w3.2.2.2.2.1) h sw3
  refine v_topM (fun m2 em2 => ?_)
  replace h := g_nm h em2
  have wf5 : gWf w3.2.2.2.2.1 m2 := by rw [sw3, em2]; exact wf.z _
  have lnw3 := g_ln sw3
  have hs6 := xw3.at hsA
  have C7 := C.ext xw3
  have hx8 := hx.trans xw3
  have hs9 := g_atn sw3
  change gV X w3 1 4000 (gRN X w rs rm 1 4000) 1 10 [(0, .ref x0)] [.ref (w.2.2.2.2.1.length), .ref x0] m2
  refine v_putF (pc := 10) (j := 0) C7 hin 5 rfl clX5 (by decide) rfl rfl (g_tb 113 (by decide +kernel) rfl) hs6 rfl ?_
  refine v_topM (fun m10 em10 => ?_)
  replace h := g_nm h em10
  have wf11 : gWf w3.2.2.2.2.1 m10 := by rw [em10]; exact wf5.r (by omega)
  obtain ⟨rfl, rfl⟩ := g_so h
  exact v_vretN hx8 wf11 (pc := 13) C7 6 rfl hr
theorem c_X5_init {l : Launch} {w : gW} {rs : List gS} {rm m : gM} (hJ : gJok w) (wf : gWf w.2.2.2.2.1 m) {F : Nat} {x0 : Nat} (h : f_X5_init w.2.2.2.2.1 F x0 m = some (rs, rm)) : gMN l 1 1 4000 yX5_init cX5_init 1 w [.ref x0] m rs rm := by
  have h0 := h
  unfold f_X5_init at h0
  exact gMN.of hJ mf_X5_init dk_X5_init (Nat.le_of_ble_eq_true rfl) rfl (g_oB (g_okk h0).1) (fun X _ C hR hr hin hA => tf_X5_init (F := F) C hR hr hin hA wf h)
set_option maxRecDepth 100000 in
def f_X0_init (sh : List gS) (F : Nat) (x0 : Nat) (x1 : Int32) (m : gM) : Option (List gS × gM) :=
  g_if (oB sh x0 0) (g_if (kB sh) (g_if (!(decide (x1 < 0)) && decide (x1.toNatClampNeg ≤ 100)) (nm (sh ++ [.inr (.int, x1.toNatClampNeg)]) (fun sh1 => nm (gz m sh.length) (fun m2 => nm (gsR m2 x0 0 (some (sh.length))) (fun m11 => g_if (kB sh1) (g_if (!(decide (x1 < 0)) && decide (x1.toNatClampNeg ≤ 100)) (nm (sh1 ++ [.inr (.int, x1.toNatClampNeg)]) (fun sh13 => nm (gz m11 sh1.length) (fun m14 => nm (gsR m14 x0 1 (some (sh1.length))) (fun m24 => g_if (kB sh13) (g_if (!(decide (x1 < 0)) && decide (x1.toNatClampNeg ≤ 100)) (nm (sh13 ++ [.inr (.long, x1.toNatClampNeg)]) (fun sh26 => nm (gz m24 sh13.length) (fun m27 => nm (gsR m27 x0 2 (some (sh13.length))) (fun m38 => g_if (kB sh26) (g_if (!(decide (x1 < 0)) && decide (x1.toNatClampNeg ≤ 100)) (nm (sh26 ++ [.inr (.long, x1.toNatClampNeg)]) (fun sh40 => nm (gz m38 sh26.length) (fun m41 => nm (gsR m41 x0 3 (some (sh26.length))) (fun m53 => some (sh40, m53))))))))))))))))))))))
set_option maxRecDepth 100000 in
set_option maxHeartbeats 8000000 in
theorem tf_X0_init {X : gX} {w : gW} {rs : List gS} {rm : gM} (C : gC X w K_X0_init 2 RX0 1) (hR : X.2.2.2.1 = g_rn 1 4 400) (hr : X.2.2.2.2.2.2.2.2.1.sig.returnType = none) (hin : X.2.2.2.2.2.2.2.2.1.name = "<init>") (hA : w.2.2.2.1 ≤ X.2.2.2.2.1.heap.size) {m : gM} (wf : gWf w.2.2.2.2.1 m) {F : Nat} {x0 : Nat} {x1 : Int32} (h : f_X0_init w.2.2.2.2.1 F x0 x1 m = some (rs, rm)) : gV X w 0 0 (gRN X w rs rm 4 400) 2 0 [(0, .ref x0), (1, .int x1)] [] m := by
  have hx := gEx.refl w
  unfold f_X0_init at h
  obtain ⟨o0, h⟩ := g_okk h
  have hsA := g_oB o0
  have ltA := g_olt o0
  refine v_aload_n (pc := 0) C 0 0 rfl rfl rfl ?_
  refine v_objInit (pc := 1) C 1 rfl (g_tb 134 (by decide +kernel) rfl) (g_tb 105 (by decide +kernel) rfl) (g_tb 106 (by decide +kernel) (by decide +kernel)) (by decide) (Nat.le_of_ble_eq_true rfl) ?_
  refine v_aload_n (pc := 4) C 2 0 rfl rfl rfl ?_
  refine v_iload_n (pc := 5) C 3 1 rfl rfl rfl ?_
  obtain ⟨k4, h⟩ := g_okk h
  have kk4 := g_kB k4
  obtain ⟨n5, h⟩ := g_okk h
  simp only [Bool.and_eq_true, Bool.not_eq_true', decide_eq_false_iff_not, decide_eq_true_eq] at n5
  refine v_newa (pc := 6) C 4 (x1.toNatClampNeg) rfl rfl (Or.inl rfl) (g_tb 162 (by decide +kernel) rfl) n5.1 rfl (Nat.le_trans n5.2 (by decide)) wf (gLv_ref (by omega) (gLv_int gLv_nil)) (gLs_ref (by omega) gLs_nil) kk4 (hx.n0 hA) ⟨by rw [hR]; decide, by rw [hR]; have := n5.2; simp only [g_rn]; omega⟩ (fun w3 xw3 sw3 => ?_)
  refine gV_widen (kc := 1) (ks := 100) (by omega) (by have := n5.2; omega) ?_
  replace h := g_nm (y := w3.2.2.2.2.1) h sw3
  refine v_topM (fun m2 em2 => ?_)
  replace h := g_nm h em2
  have wf6 : gWf w3.2.2.2.2.1 m2 := by rw [sw3, em2]; exact wf.z _
  have lnw3 := g_ln sw3
  have hs7 := xw3.at hsA
  have C8 := C.ext xw3
  have hx9 := hx.trans xw3
  have hs10 := g_atn sw3
  change gV X w3 1 100 (gRN X w rs rm 4 400) 2 8 [(0, .ref x0), (1, .int x1)] [.ref (w.2.2.2.2.1.length), .ref x0] m2
  refine v_putF (pc := 8) (j := 0) C8 hin 5 rfl clX0 (by decide) rfl rfl (g_tb 135 (by decide +kernel) rfl) hs7 rfl ?_
  refine v_topM (fun m11 em11 => ?_)
  replace h := g_nm h em11
  have wf12 : gWf w3.2.2.2.2.1 m11 := by rw [em11]; exact wf6.r (by omega)
  refine v_aload_n (pc := 11) C8 6 0 rfl rfl rfl ?_
  refine v_iload_n (pc := 12) C8 7 1 rfl rfl rfl ?_
  obtain ⟨k16, h⟩ := g_okk h
  have kk16 := g_kB k16
  obtain ⟨n17, h⟩ := g_okk h
  simp only [Bool.and_eq_true, Bool.not_eq_true', decide_eq_false_iff_not, decide_eq_true_eq] at n17
  refine v_newa (pc := 13) C8 8 (x1.toNatClampNeg) rfl rfl (Or.inl rfl) (g_tb 162 (by decide +kernel) rfl) n17.1 rfl (Nat.le_trans n17.2 (by decide)) wf12 (gLv_ref (by omega) (gLv_int gLv_nil)) (gLs_ref (by omega) gLs_nil) kk16 (hx9.n0 hA) ⟨by rw [hR]; decide, by rw [hR]; have := n17.2; simp only [g_rn]; omega⟩ (fun w15 xw15 sw15 => ?_)
  refine gV_widen (kc := 2) (ks := 200) (by omega) (by have := n17.2; omega) ?_
  replace h := g_nm (y := w15.2.2.2.2.1) h sw15
  refine v_topM (fun m14 em14 => ?_)
  replace h := g_nm h em14
  have wf18 : gWf w15.2.2.2.2.1 m14 := by rw [sw15, em14]; exact wf12.z _
  have lnw15 := g_ln sw15
  have hs19 := xw15.at hs7
  have hs20 := xw15.at hs10
  have C21 := C8.ext xw15
  have hx22 := hx9.trans xw15
  have hs23 := g_atn sw15
  change gV X w15 2 200 (gRN X w rs rm 4 400) 2 15 [(0, .ref x0), (1, .int x1)] [.ref (w3.2.2.2.2.1.length), .ref x0] m14
  refine v_putF (pc := 15) (j := 1) C21 hin 9 rfl clX0 (by decide) rfl rfl (g_tb 139 (by decide +kernel) rfl) hs19 rfl ?_
  refine v_topM (fun m24 em24 => ?_)
  replace h := g_nm h em24
  have wf25 : gWf w15.2.2.2.2.1 m24 := by rw [em24]; exact wf18.r (by omega)
  refine v_aload_n (pc := 18) C21 10 0 rfl rfl rfl ?_
  refine v_iload_n (pc := 19) C21 11 1 rfl rfl rfl ?_
  obtain ⟨k29, h⟩ := g_okk h
  have kk29 := g_kB k29
  obtain ⟨n30, h⟩ := g_okk h
  simp only [Bool.and_eq_true, Bool.not_eq_true', decide_eq_false_iff_not, decide_eq_true_eq] at n30
  refine v_newa (pc := 20) C21 12 (x1.toNatClampNeg) rfl rfl (Or.inr (Or.inl rfl)) (g_tb 163 (by decide +kernel) rfl) n30.1 rfl (Nat.le_trans n30.2 (by decide)) wf25 (gLv_ref (by omega) (gLv_int gLv_nil)) (gLs_ref (by omega) gLs_nil) kk29 (hx22.n0 hA) ⟨by rw [hR]; decide, by rw [hR]; have := n30.2; simp only [g_rn]; omega⟩ (fun w28 xw28 sw28 => ?_)
  refine gV_widen (kc := 3) (ks := 300) (by omega) (by have := n30.2; omega) ?_
  replace h := g_nm (y := w28.2.2.2.2.1) h sw28
  refine v_topM (fun m27 em27 => ?_)
  replace h := g_nm h em27
  have wf31 : gWf w28.2.2.2.2.1 m27 := by rw [sw28, em27]; exact wf25.z _
  have lnw28 := g_ln sw28
  have hs32 := xw28.at hs19
  have hs33 := xw28.at hs20
  have hs34 := xw28.at hs23
  have C35 := C21.ext xw28
  have hx36 := hx22.trans xw28
  have hs37 := g_atn sw28
  change gV X w28 3 300 (gRN X w rs rm 4 400) 2 22 [(0, .ref x0), (1, .int x1)] [.ref (w15.2.2.2.2.1.length), .ref x0] m27
  refine v_putF (pc := 22) (j := 2) C35 hin 13 rfl clX0 (by decide) rfl rfl (g_tb 141 (by decide +kernel) rfl) hs32 rfl ?_
  refine v_topM (fun m38 em38 => ?_)
  replace h := g_nm h em38
  have wf39 : gWf w28.2.2.2.2.1 m38 := by rw [em38]; exact wf31.r (by omega)
  refine v_aload_n (pc := 25) C35 14 0 rfl rfl rfl ?_
  refine v_iload_n (pc := 26) C35 15 1 rfl rfl rfl ?_
  obtain ⟨k43, h⟩ := g_okk h
  have kk43 := g_kB k43
  obtain ⟨n44, h⟩ := g_okk h
  simp only [Bool.and_eq_true, Bool.not_eq_true', decide_eq_false_iff_not, decide_eq_true_eq] at n44
  refine v_newa (pc := 27) C35 16 (x1.toNatClampNeg) rfl rfl (Or.inr (Or.inl rfl)) (g_tb 163 (by decide +kernel) rfl) n44.1 rfl (Nat.le_trans n44.2 (by decide)) wf39 (gLv_ref (by omega) (gLv_int gLv_nil)) (gLs_ref (by omega) gLs_nil) kk43 (hx36.n0 hA) ⟨by rw [hR]; decide, by rw [hR]; have := n44.2; simp only [g_rn]; omega⟩ (fun w42 xw42 sw42 => ?_)
  refine gV_widen (kc := 4) (ks := 400) (by omega) (by have := n44.2; omega) ?_
  replace h := g_nm (y := w42.2.2.2.2.1) h sw42
  refine v_topM (fun m41 em41 => ?_)
  replace h := g_nm h em41
  have wf45 : gWf w42.2.2.2.2.1 m41 := by rw [sw42, em41]; exact wf39.z _
  have lnw42 := g_ln sw42
  have hs46 := xw42.at hs32
  have hs47 := xw42.at hs33
  have hs48 := xw42.at hs34
  have hs49 := xw42.at hs37
  have C50 := C35.ext xw42
  have hx51 := hx36.trans xw42
  have hs52 := g_atn sw42
  change gV X w42 4 400 (gRN X w rs rm 4 400) 2 29 [(0, .ref x0), (1, .int x1)] [.ref (w28.2.2.2.2.1.length), .ref x0] m41
  refine v_putF (pc := 29) (j := 3) C50 hin 17 rfl clX0 (by decide) rfl rfl (g_tb 143 (by decide +kernel) rfl) hs46 rfl ?_
  refine v_topM (fun m53 em53 => ?_)
  replace h := g_nm h em53
  have wf54 : gWf w42.2.2.2.2.1 m53 := by rw [em53]; exact wf45.r (by omega)
  obtain ⟨rfl, rfl⟩ := g_so h
  exact v_vretN hx51 wf54 (pc := 32) C50 18 rfl hr
theorem c_X0_init {l : Launch} {w : gW} {rs : List gS} {rm m : gM} (hJ : gJok w) (wf : gWf w.2.2.2.2.1 m) {F : Nat} {x0 : Nat} {x1 : Int32} (h : f_X0_init w.2.2.2.2.1 F x0 x1 m = some (rs, rm)) : gMN l 1 4 400 yX0_init cX0_init 2 w [.ref x0, .int x1] m rs rm := by
  have h0 := h
  unfold f_X0_init at h0
  exact gMN.of hJ mf_X0_init dk_X0_init (Nat.le_of_ble_eq_true rfl) rfl (g_oB (g_okk h0).1) (fun X _ C hR hr hin hA => tf_X0_init (F := F) C hR hr hin hA wf h)
set_option maxRecDepth 100000 in
def f_X1_init (sh : List gS) (F : Nat) (x0 : Nat) (m : gM) : Option (List gS × gM) :=
  g_if (oB sh x0 1) (g_if (kB sh) (nm (sh ++ [.inr (.long, 100)]) (fun sh1 => nm (gz m sh.length) (fun m2 => nm (gsR m2 x0 0 (some (sh.length))) (fun m10 => g_if (kB sh1) (nm (sh1 ++ [.inr (.long, 100)]) (fun sh12 => nm (gz m10 sh1.length) (fun m13 => nm (gsR m13 x0 1 (some (sh1.length))) (fun m22 => g_if (kB sh12) (nm (sh12 ++ [.inr (.int, 100)]) (fun sh24 => nm (gz m22 sh12.length) (fun m25 => nm (gsR m25 x0 2 (some (sh12.length))) (fun m35 => g_if (kB sh24) (nm (sh24 ++ [.inr (.int, 100)]) (fun sh37 => nm (gz m35 sh24.length) (fun m38 => nm (gsR m38 x0 3 (some (sh24.length))) (fun m49 => some (sh37, m49))))))))))))))))))
set_option maxRecDepth 100000 in
set_option maxHeartbeats 8000000 in
theorem tf_X1_init {X : gX} {w : gW} {rs : List gS} {rm : gM} (C : gC X w K_X1_init 1 RX1 1) (hR : X.2.2.2.1 = g_rn 1 4 400) (hr : X.2.2.2.2.2.2.2.2.1.sig.returnType = none) (hin : X.2.2.2.2.2.2.2.2.1.name = "<init>") (hA : w.2.2.2.1 ≤ X.2.2.2.2.1.heap.size) {m : gM} (wf : gWf w.2.2.2.2.1 m) {F : Nat} {x0 : Nat} (h : f_X1_init w.2.2.2.2.1 F x0 m = some (rs, rm)) : gV X w 0 0 (gRN X w rs rm 4 400) 1 0 [(0, .ref x0)] [] m := by
  have hx := gEx.refl w
  unfold f_X1_init at h
  obtain ⟨o0, h⟩ := g_okk h
  have hsA := g_oB o0
  have ltA := g_olt o0
  refine v_aload_n (pc := 0) C 0 0 rfl rfl rfl ?_
  refine v_objInit (pc := 1) C 1 rfl (g_tb 241 (by decide +kernel) rfl) (g_tb 105 (by decide +kernel) rfl) (g_tb 106 (by decide +kernel) (by decide +kernel)) (by decide) (Nat.le_of_ble_eq_true rfl) ?_
  refine v_aload_n (pc := 4) C 2 0 rfl rfl rfl ?_
  refine v_bipush (pc := 5) C 3 100 rfl (by decide) ?_
  obtain ⟨k4, h⟩ := g_okk h
  have kk4 := g_kB k4
  refine v_newa (pc := 7) C 4 (100) rfl rfl (Or.inr (Or.inl rfl)) (g_tb 163 (by decide +kernel) rfl) (by decide) (by decide) (by decide) wf (gLv_ref (by omega) gLv_nil) (gLs_ref (by omega) gLs_nil) kk4 (hx.n0 hA) ⟨by rw [hR]; decide, by rw [hR]; decide⟩ (fun w3 xw3 sw3 => ?_)
  replace h := g_nm (y := w3.2.2.2.2.1) h sw3
  refine v_topM (fun m2 em2 => ?_)
  replace h := g_nm h em2
  have wf5 : gWf w3.2.2.2.2.1 m2 := by rw [sw3, em2]; exact wf.z _
  have lnw3 := g_ln sw3
  have hs6 := xw3.at hsA
  have C7 := C.ext xw3
  have hx8 := hx.trans xw3
  have hs9 := g_atn sw3
  change gV X w3 1 100 (gRN X w rs rm 4 400) 1 9 [(0, .ref x0)] [.ref (w.2.2.2.2.1.length), .ref x0] m2
  refine v_putF (pc := 9) (j := 0) C7 hin 5 rfl clX1 (by decide) rfl rfl (g_tb 242 (by decide +kernel) rfl) hs6 rfl ?_
  refine v_topM (fun m10 em10 => ?_)
  replace h := g_nm h em10
  have wf11 : gWf w3.2.2.2.2.1 m10 := by rw [em10]; exact wf5.r (by omega)
  refine v_aload_n (pc := 12) C7 6 0 rfl rfl rfl ?_
  refine v_bipush (pc := 13) C7 7 100 rfl (by decide) ?_
  obtain ⟨k15, h⟩ := g_okk h
  have kk15 := g_kB k15
  refine v_newa (pc := 15) C7 8 (100) rfl rfl (Or.inr (Or.inl rfl)) (g_tb 163 (by decide +kernel) rfl) (by decide) (by decide) (by decide) wf11 (gLv_ref (by omega) gLv_nil) (gLs_ref (by omega) gLs_nil) kk15 (hx8.n0 hA) ⟨by rw [hR]; decide, by rw [hR]; decide⟩ (fun w14 xw14 sw14 => ?_)
  replace h := g_nm (y := w14.2.2.2.2.1) h sw14
  refine v_topM (fun m13 em13 => ?_)
  replace h := g_nm h em13
  have wf16 : gWf w14.2.2.2.2.1 m13 := by rw [sw14, em13]; exact wf11.z _
  have lnw14 := g_ln sw14
  have hs17 := xw14.at hs6
  have hs18 := xw14.at hs9
  have C19 := C7.ext xw14
  have hx20 := hx8.trans xw14
  have hs21 := g_atn sw14
  change gV X w14 2 200 (gRN X w rs rm 4 400) 1 17 [(0, .ref x0)] [.ref (w3.2.2.2.2.1.length), .ref x0] m13
  refine v_putF (pc := 17) (j := 1) C19 hin 9 rfl clX1 (by decide) rfl rfl (g_tb 244 (by decide +kernel) rfl) hs17 rfl ?_
  refine v_topM (fun m22 em22 => ?_)
  replace h := g_nm h em22
  have wf23 : gWf w14.2.2.2.2.1 m22 := by rw [em22]; exact wf16.r (by omega)
  refine v_aload_n (pc := 20) C19 10 0 rfl rfl rfl ?_
  refine v_bipush (pc := 21) C19 11 100 rfl (by decide) ?_
  obtain ⟨k27, h⟩ := g_okk h
  have kk27 := g_kB k27
  refine v_newa (pc := 23) C19 12 (100) rfl rfl (Or.inl rfl) (g_tb 162 (by decide +kernel) rfl) (by decide) (by decide) (by decide) wf23 (gLv_ref (by omega) gLv_nil) (gLs_ref (by omega) gLs_nil) kk27 (hx20.n0 hA) ⟨by rw [hR]; decide, by rw [hR]; decide⟩ (fun w26 xw26 sw26 => ?_)
  replace h := g_nm (y := w26.2.2.2.2.1) h sw26
  refine v_topM (fun m25 em25 => ?_)
  replace h := g_nm h em25
  have wf28 : gWf w26.2.2.2.2.1 m25 := by rw [sw26, em25]; exact wf23.z _
  have lnw26 := g_ln sw26
  have hs29 := xw26.at hs17
  have hs30 := xw26.at hs18
  have hs31 := xw26.at hs21
  have C32 := C19.ext xw26
  have hx33 := hx20.trans xw26
  have hs34 := g_atn sw26
  change gV X w26 3 300 (gRN X w rs rm 4 400) 1 25 [(0, .ref x0)] [.ref (w14.2.2.2.2.1.length), .ref x0] m25
  refine v_putF (pc := 25) (j := 2) C32 hin 13 rfl clX1 (by decide) rfl rfl (g_tb 247 (by decide +kernel) rfl) hs29 rfl ?_
  refine v_topM (fun m35 em35 => ?_)
  replace h := g_nm h em35
  have wf36 : gWf w26.2.2.2.2.1 m35 := by rw [em35]; exact wf28.r (by omega)
  refine v_aload_n (pc := 28) C32 14 0 rfl rfl rfl ?_
  refine v_bipush (pc := 29) C32 15 100 rfl (by decide) ?_
  obtain ⟨k40, h⟩ := g_okk h
  have kk40 := g_kB k40
  refine v_newa (pc := 31) C32 16 (100) rfl rfl (Or.inl rfl) (g_tb 162 (by decide +kernel) rfl) (by decide) (by decide) (by decide) wf36 (gLv_ref (by omega) gLv_nil) (gLs_ref (by omega) gLs_nil) kk40 (hx33.n0 hA) ⟨by rw [hR]; decide, by rw [hR]; decide⟩ (fun w39 xw39 sw39 => ?_)
  replace h := g_nm (y := w39.2.2.2.2.1) h sw39
  refine v_topM (fun m38 em38 => ?_)
  replace h := g_nm h em38
  have wf41 : gWf w39.2.2.2.2.1 m38 := by rw [sw39, em38]; exact wf36.z _
  have lnw39 := g_ln sw39
  have hs42 := xw39.at hs29
  have hs43 := xw39.at hs30
  have hs44 := xw39.at hs31
  have hs45 := xw39.at hs34
  have C46 := C32.ext xw39
  have hx47 := hx33.trans xw39
  have hs48 := g_atn sw39
  change gV X w39 4 400 (gRN X w rs rm 4 400) 1 33 [(0, .ref x0)] [.ref (w26.2.2.2.2.1.length), .ref x0] m38
  refine v_putF (pc := 33) (j := 3) C46 hin 17 rfl clX1 (by decide) rfl rfl (g_tb 250 (by decide +kernel) rfl) hs42 rfl ?_
  refine v_topM (fun m49 em49 => ?_)
  replace h := g_nm h em49
  have wf50 : gWf w39.2.2.2.2.1 m49 := by rw [em49]; exact wf41.r (by omega)
  obtain ⟨rfl, rfl⟩ := g_so h
  exact v_vretN hx47 wf50 (pc := 36) C46 18 rfl hr
theorem c_X1_init {l : Launch} {w : gW} {rs : List gS} {rm m : gM} (hJ : gJok w) (wf : gWf w.2.2.2.2.1 m) {F : Nat} {x0 : Nat} (h : f_X1_init w.2.2.2.2.1 F x0 m = some (rs, rm)) : gMN l 1 4 400 yX1_init cX1_init 1 w [.ref x0] m rs rm := by
  have h0 := h
  unfold f_X1_init at h0
  exact gMN.of hJ mf_X1_init dk_X1_init (Nat.le_of_ble_eq_true rfl) rfl (g_oB (g_okk h0).1) (fun X _ C hR hr hin hA => tf_X1_init (F := F) C hR hr hin hA wf h)
set_option maxRecDepth 100000 in
def f_X6_init (sh : List gS) (F : Nat) (x0 : Nat) (m : gM) : Option (List gS × gM) :=
  g_if (oB sh x0 6) (some (sh, m))
set_option maxRecDepth 100000 in
set_option maxHeartbeats 8000000 in
theorem tf_X6_init {X : gX} {w : gW} {rs : List gS} {rm : gM} (C : gC X w K_X6_init 1 RX6 1) (hR : X.2.2.2.1 = g_rn 1 0 0) (hr : X.2.2.2.2.2.2.2.2.1.sig.returnType = none) (hin : X.2.2.2.2.2.2.2.2.1.name = "<init>") (hA : w.2.2.2.1 ≤ X.2.2.2.2.1.heap.size) {m : gM} (wf : gWf w.2.2.2.2.1 m) {F : Nat} {x0 : Nat} (h : f_X6_init w.2.2.2.2.1 F x0 m = some (rs, rm)) : gV X w 0 0 (gRN X w rs rm 0 0) 1 0 [(0, .ref x0)] [] m := by
  have hx := gEx.refl w
  unfold f_X6_init at h
  obtain ⟨o0, h⟩ := g_okk h
  have hsA := g_oB o0
  have ltA := g_olt o0
  refine v_aload_n (pc := 0) C 0 0 rfl rfl rfl ?_
  refine v_objInit (pc := 1) C 1 rfl (g_tb 273 (by decide +kernel) rfl) (g_tb 105 (by decide +kernel) rfl) (g_tb 106 (by decide +kernel) (by decide +kernel)) (by decide) (Nat.le_of_ble_eq_true rfl) ?_
  obtain ⟨rfl, rfl⟩ := g_so h
  exact v_vretN hx wf (pc := 4) C 2 rfl hr
theorem c_X6_init {l : Launch} {w : gW} {rs : List gS} {rm m : gM} (hJ : gJok w) (wf : gWf w.2.2.2.2.1 m) {F : Nat} {x0 : Nat} (h : f_X6_init w.2.2.2.2.1 F x0 m = some (rs, rm)) : gMN l 1 0 0 yX6_init cX6_init 1 w [.ref x0] m rs rm := by
  have h0 := h
  unfold f_X6_init at h0
  exact gMN.of hJ mf_X6_init dk_X6_init (Nat.le_of_ble_eq_true rfl) rfl (g_oB (g_okk h0).1) (fun X _ C hR hr hin hA => tf_X6_init (F := F) C hR hr hin hA wf h)
set_option maxRecDepth 100000 in
def f_X4_init (sh : List gS) (F : Nat) (x0 : Nat) (x1 : Nat) (x2 : Nat) (m : gM) : Option (List gS × gM) :=
  g_if (oB sh x0 4) (g_if (decide (x1 < sh.length)) (g_if (decide (x2 < sh.length)) (g_if (kB sh) (nm (sh ++ [.inr (.long, 384)]) (fun sh1 => nm (gz m sh.length) (fun m2 => nm (gsR m2 x0 0 (some (sh.length))) (fun m10 => nm (gsR m10 x0 1 (some x1)) (fun m12 => nm (gsR m12 x0 2 (some x2)) (fun m14 => some (sh1, m14))))))))))
set_option maxRecDepth 100000 in
set_option maxHeartbeats 8000000 in
theorem tf_X4_init {X : gX} {w : gW} {rs : List gS} {rm : gM} (C : gC X w K_X4_init 3 RX4 1) (hR : X.2.2.2.1 = g_rn 1 1 384) (hr : X.2.2.2.2.2.2.2.2.1.sig.returnType = none) (hin : X.2.2.2.2.2.2.2.2.1.name = "<init>") (hA : w.2.2.2.1 ≤ X.2.2.2.2.1.heap.size) {m : gM} (wf : gWf w.2.2.2.2.1 m) {F : Nat} {x0 : Nat} {x1 : Nat} {x2 : Nat} (h : f_X4_init w.2.2.2.2.1 F x0 x1 x2 m = some (rs, rm)) : gV X w 0 0 (gRN X w rs rm 1 384) 3 0 [(0, .ref x0), (1, .ref x1), (2, .ref x2)] [] m := by
  have hx := gEx.refl w
  unfold f_X4_init at h
  obtain ⟨o0, h⟩ := g_okk h
  have hsA := g_oB o0
  have ltA := g_olt o0
  obtain ⟨p1, h⟩ := g_okk h
  have lt1 := of_decide_eq_true p1
  obtain ⟨p2, h⟩ := g_okk h
  have lt2 := of_decide_eq_true p2
  refine v_aload_n (pc := 0) C 0 0 rfl rfl rfl ?_
  refine v_objInit (pc := 1) C 1 rfl (g_tb 337 (by decide +kernel) rfl) (g_tb 105 (by decide +kernel) rfl) (g_tb 106 (by decide +kernel) (by decide +kernel)) (by decide) (Nat.le_of_ble_eq_true rfl) ?_
  refine v_aload_n (pc := 4) C 2 0 rfl rfl rfl ?_
  refine v_sipush (pc := 5) C 3 384 rfl (by decide) ?_
  obtain ⟨k4, h⟩ := g_okk h
  have kk4 := g_kB k4
  refine v_newa (pc := 8) C 4 (384) rfl rfl (Or.inr (Or.inl rfl)) (g_tb 163 (by decide +kernel) rfl) (by decide) (by decide) (by decide) wf (gLv_ref (by omega) (gLv_ref (by omega) (gLv_ref (by omega) gLv_nil))) (gLs_ref (by omega) gLs_nil) kk4 (hx.n0 hA) ⟨by rw [hR]; decide, by rw [hR]; decide⟩ (fun w3 xw3 sw3 => ?_)
  replace h := g_nm (y := w3.2.2.2.2.1) h sw3
  refine v_topM (fun m2 em2 => ?_)
  replace h := g_nm h em2
  have wf5 : gWf w3.2.2.2.2.1 m2 := by rw [sw3, em2]; exact wf.z _
  have lnw3 := g_ln sw3
  have hs6 := xw3.at hsA
  have C7 := C.ext xw3
  have hx8 := hx.trans xw3
  have hs9 := g_atn sw3
  change gV X w3 1 384 (gRN X w rs rm 1 384) 3 10 [(0, .ref x0), (1, .ref x1), (2, .ref x2)] [.ref (w.2.2.2.2.1.length), .ref x0] m2
  refine v_putF (pc := 10) (j := 0) C7 hin 5 rfl clX4 (by decide) rfl rfl (g_tb 338 (by decide +kernel) rfl) hs6 rfl ?_
  refine v_topM (fun m10 em10 => ?_)
  replace h := g_nm h em10
  have wf11 : gWf w3.2.2.2.2.1 m10 := by rw [em10]; exact wf5.r (by omega)
  refine v_aload_n (pc := 13) C7 6 0 rfl rfl rfl ?_
  refine v_aload_n (pc := 14) C7 7 1 rfl rfl rfl ?_
  refine v_putR (pc := 15) C7 8 rfl lf_ScopeGraph_Resolver_15 hs6 rfl ?_
  refine v_topM (fun m12 em12 => ?_)
  replace h := g_nm h em12
  have wf13 : gWf w3.2.2.2.2.1 m12 := by rw [em12]; exact wf11.r (by omega)
  refine v_aload_n (pc := 18) C7 9 0 rfl rfl rfl ?_
  refine v_aload_n (pc := 19) C7 10 2 rfl rfl rfl ?_
  refine v_putR (pc := 20) C7 11 rfl lf_ScopeGraph_Resolver_19 hs6 rfl ?_
  refine v_topM (fun m14 em14 => ?_)
  replace h := g_nm h em14
  have wf15 : gWf w3.2.2.2.2.1 m14 := by rw [em14]; exact wf13.r (by omega)
  obtain ⟨rfl, rfl⟩ := g_so h
  exact v_vretN hx8 wf15 (pc := 23) C7 12 rfl hr
theorem c_X4_init {l : Launch} {w : gW} {rs : List gS} {rm m : gM} (hJ : gJok w) (wf : gWf w.2.2.2.2.1 m) {F : Nat} {x0 : Nat} {x1 : Nat} {x2 : Nat} (h : f_X4_init w.2.2.2.2.1 F x0 x1 x2 m = some (rs, rm)) : gMN l 1 1 384 yX4_init cX4_init 3 w [.ref x0, .ref x1, .ref x2] m rs rm := by
  have h0 := h
  unfold f_X4_init at h0
  exact gMN.of hJ mf_X4_init dk_X4_init (Nat.le_of_ble_eq_true rfl) rfl (g_oB (g_okk h0).1) (fun X _ C hR hr hin hA => tf_X4_init (F := F) C hR hr hin hA wf h)
set_option maxRecDepth 100000 in
def f_X2_init (sh : List gS) (F : Nat) (x0 : Nat) (m : gM) : Option (List gS × gM) :=
  g_if (oB sh x0 2) (g_if (kB sh) (nm (sh ++ [.inl 0]) (fun sh1 => nm (gz m sh.length) (fun m2 => (f_X0_init sh1 F (sh.length) 60 m2).bind (fun q13 => nm q13.1 (fun sh10 => nm q13.2 (fun m11 => nm (gsR m11 x0 0 (some (sh.length))) (fun m19 => g_if (kB sh10) (nm (sh10 ++ [.inl 0]) (fun sh21 => nm (gz m19 sh10.length) (fun m22 => (f_X0_init sh21 F (sh10.length) 100 m22).bind (fun q34 => nm q34.1 (fun sh31 => nm q34.2 (fun m32 => nm (gsR m32 x0 1 (some (sh10.length))) (fun m41 => g_if (kB sh31) (nm (sh31 ++ [.inr (.int, 64)]) (fun sh43 => nm (gz m41 sh31.length) (fun m44 => nm (gsR m44 x0 2 (some (sh31.length))) (fun m54 => g_if (kB sh43) (nm (sh43 ++ [.inr (.int, 64)]) (fun sh56 => nm (gz m54 sh43.length) (fun m57 => nm (gsR m57 x0 3 (some (sh43.length))) (fun m68 => g_if (kB sh56) (nm (sh56 ++ [.inr (.long, 64)]) (fun sh70 => nm (gz m68 sh56.length) (fun m71 => nm (gsR m71 x0 4 (some (sh56.length))) (fun m83 => g_if (kB sh70) (nm (sh70 ++ [.inr (.int, 64)]) (fun sh85 => nm (gz m83 sh70.length) (fun m86 => nm (gsR m86 x0 5 (some (sh70.length))) (fun m99 => g_if (kB sh85) (nm (sh85 ++ [.inr (.int, 64)]) (fun sh101 => nm (gz m99 sh85.length) (fun m102 => nm (gsR m102 x0 6 (some (sh85.length))) (fun m116 => g_if (kB sh101) (nm (sh101 ++ [.inr (.int, 100)]) (fun sh118 => nm (gz m116 sh101.length) (fun m119 => nm (gsR m119 x0 7 (some (sh101.length))) (fun m134 => g_if (kB sh118) (nm (sh118 ++ [.inr (.int, 100)]) (fun sh136 => nm (gz m134 sh118.length) (fun m137 => nm (gsR m137 x0 8 (some (sh118.length))) (fun m153 => g_if (kB sh136) (nm (sh136 ++ [.inr (.int, 6)]) (fun sh155 => nm (gz m153 sh136.length) (fun m156 => nm (gsR m156 x0 9 (some (sh136.length))) (fun m173 => g_if (kB sh155) (nm (sh155 ++ [.inr (.int, 6)]) (fun sh175 => nm (gz m173 sh155.length) (fun m176 => nm (gsR m176 x0 10 (some (sh155.length))) (fun m194 => (f_X2_empty sh175 F x0 m194).bind (fun m196 => some (sh175, m196)))))))))))))))))))))))))))))))))))))))))))))))))))))
set_option maxRecDepth 100000 in
set_option maxHeartbeats 8000000 in
theorem tf_X2_init {X : gX} {w : gW} {rs : List gS} {rm : gM} (C : gC X w K_X2_init 1 RX2 2) (hR : X.2.2.2.1 = g_rn 2 19 1342) (hr : X.2.2.2.2.2.2.2.2.1.sig.returnType = none) (hin : X.2.2.2.2.2.2.2.2.1.name = "<init>") (hA : w.2.2.2.1 ≤ X.2.2.2.2.1.heap.size) {m : gM} (wf : gWf w.2.2.2.2.1 m) {F : Nat} {x0 : Nat} (h : f_X2_init w.2.2.2.2.1 F x0 m = some (rs, rm)) : gV X w 0 0 (gRN X w rs rm 19 1342) 1 0 [(0, .ref x0)] [] m := by
  have hx := gEx.refl w
  unfold f_X2_init at h
  obtain ⟨o0, h⟩ := g_okk h
  have hsA := g_oB o0
  have ltA := g_olt o0
  refine v_aload_n (pc := 0) C 0 0 rfl rfl rfl ?_
  refine v_objInit (pc := 1) C 1 rfl (g_tb 128 (by decide +kernel) rfl) (g_tb 105 (by decide +kernel) rfl) (g_tb 106 (by decide +kernel) (by decide +kernel)) (by decide) (Nat.le_of_ble_eq_true rfl) ?_
  refine v_aload_n (pc := 4) C 2 0 rfl rfl rfl ?_
  obtain ⟨k4, h⟩ := g_okk h
  have kk4 := g_kB k4
  refine v_new (pc := 5) C 3 rfl clX0 ⟨g_tb 129 (by decide +kernel) rfl, g_tb 130 (by decide +kernel) rfl, g_tb 80 (by decide +kernel) rfl⟩ (by decide) wf (gLv_ref (by omega) gLv_nil) (gLs_ref (by omega) gLs_nil) kk4 (hx.n0 hA) ⟨by rw [hR]; decide, by rw [hR]; decide⟩ (fun w3 xw3 sw3 => ?_)
  replace h := g_nm (y := w3.2.2.2.2.1) h sw3
  refine v_topM (fun m2 em2 => ?_)
  replace h := g_nm h em2
  have wf5 : gWf w3.2.2.2.2.1 m2 := by rw [sw3, em2]; exact wf.z _
  have lnw3 := g_ln sw3
  have hs6 := xw3.at hsA
  have C7 := C.ext xw3
  have hx8 := hx.trans xw3
  have hs9 := g_atn sw3
  change gV X w3 1 5 (gRN X w rs rm 19 1342) 1 8 [(0, .ref x0)] [.ref (w.2.2.2.2.1.length), .ref x0] m2
  refine v_dup (pc := 8) C7 4 rfl rfl ?_
  refine v_bipush (pc := 9) C7 5 60 rfl (by decide) ?_
  obtain ⟨⟨sw12, m11⟩, qw12, h⟩ := g_bd h
  replace h := g_nm (y := m11) (g_nm (y := sw12) h rfl) rfl
  refine v_callI (pc := 11) (st := [.ref (w.2.2.2.2.1.length), .ref x0]) (av := [.int 60]) C7 6 rfl mf_X0_init rfl (g_tb 132 (by decide +kernel) rfl) lm_ScopeGraph_Program_11 (c_X0_init C7.2.2.2.2.2.2.2.2.2.2.2 wf5 qw12) (by decide) rfl (gLv_ref (by omega) gLv_nil) (gLs_ref (by omega) (gLs_ref (by omega) gLs_nil)) (Nat.le_of_ble_eq_true rfl) ⟨by rw [hR]; decide, by rw [hR]; decide⟩ rfl (fun w12 xw12 zw12 yw12 => ?_)
  subst zw12
  have wf14 := yw12
  have lnw12 := xw12.le
  have hs15 := xw12.at hs6
  have hs16 := xw12.at hs9
  have C17 := C7.ext xw12
  have hx18 := hx8.trans xw12
  change gV X w12 5 405 (gRN X w rs rm 19 1342) 1 14 [(0, .ref x0)] [.ref (w.2.2.2.2.1.length), .ref x0] m11
  refine v_putF (pc := 14) (j := 0) C17 hin 7 rfl clX2 (by decide) rfl rfl (g_tb 172 (by decide +kernel) rfl) hs15 rfl ?_
  refine v_topM (fun m19 em19 => ?_)
  replace h := g_nm h em19
  have wf20 : gWf w12.2.2.2.2.1 m19 := by rw [em19]; exact wf14.r (by omega)
  refine v_aload_n (pc := 17) C17 8 0 rfl rfl rfl ?_
  obtain ⟨k24, h⟩ := g_okk h
  have kk24 := g_kB k24
  refine v_new (pc := 18) C17 9 rfl clX0 ⟨g_tb 129 (by decide +kernel) rfl, g_tb 130 (by decide +kernel) rfl, g_tb 80 (by decide +kernel) rfl⟩ (by decide) wf20 (gLv_ref (by omega) gLv_nil) (gLs_ref (by omega) gLs_nil) kk24 (hx18.n0 hA) ⟨by rw [hR]; decide, by rw [hR]; decide⟩ (fun w23 xw23 sw23 => ?_)
  replace h := g_nm (y := w23.2.2.2.2.1) h sw23
  refine v_topM (fun m22 em22 => ?_)
  replace h := g_nm h em22
  have wf25 : gWf w23.2.2.2.2.1 m22 := by rw [sw23, em22]; exact wf20.z _
  have lnw23 := g_ln sw23
  have hs26 := xw23.at hs15
  have hs27 := xw23.at hs16
  have C28 := C17.ext xw23
  have hx29 := hx18.trans xw23
  have hs30 := g_atn sw23
  change gV X w23 6 410 (gRN X w rs rm 19 1342) 1 21 [(0, .ref x0)] [.ref (w12.2.2.2.2.1.length), .ref x0] m22
  refine v_dup (pc := 21) C28 10 rfl rfl ?_
  refine v_bipush (pc := 22) C28 11 100 rfl (by decide) ?_
  obtain ⟨⟨sw33, m32⟩, qw33, h⟩ := g_bd h
  replace h := g_nm (y := m32) (g_nm (y := sw33) h rfl) rfl
  refine v_callI (pc := 24) (st := [.ref (w12.2.2.2.2.1.length), .ref x0]) (av := [.int 100]) C28 12 rfl mf_X0_init rfl (g_tb 132 (by decide +kernel) rfl) lm_ScopeGraph_Program_11 (c_X0_init C28.2.2.2.2.2.2.2.2.2.2.2 wf25 qw33) (by decide) rfl (gLv_ref (by omega) gLv_nil) (gLs_ref (by omega) (gLs_ref (by omega) gLs_nil)) (Nat.le_of_ble_eq_true rfl) ⟨by rw [hR]; decide, by rw [hR]; decide⟩ rfl (fun w33 xw33 zw33 yw33 => ?_)
  subst zw33
  have wf35 := yw33
  have lnw33 := xw33.le
  have hs36 := xw33.at hs26
  have hs37 := xw33.at hs27
  have hs38 := xw33.at hs30
  have C39 := C28.ext xw33
  have hx40 := hx29.trans xw33
  change gV X w33 10 810 (gRN X w rs rm 19 1342) 1 27 [(0, .ref x0)] [.ref (w12.2.2.2.2.1.length), .ref x0] m32
  refine v_putF (pc := 27) (j := 1) C39 hin 13 rfl clX2 (by decide) rfl rfl (g_tb 176 (by decide +kernel) rfl) hs36 rfl ?_
  refine v_topM (fun m41 em41 => ?_)
  replace h := g_nm h em41
  have wf42 : gWf w33.2.2.2.2.1 m41 := by rw [em41]; exact wf35.r (by omega)
  refine v_aload_n (pc := 30) C39 14 0 rfl rfl rfl ?_
  refine v_bipush (pc := 31) C39 15 64 rfl (by decide) ?_
  obtain ⟨k46, h⟩ := g_okk h
  have kk46 := g_kB k46
  refine v_newa (pc := 33) C39 16 (64) rfl rfl (Or.inl rfl) (g_tb 162 (by decide +kernel) rfl) (by decide) (by decide) (by decide) wf42 (gLv_ref (by omega) gLv_nil) (gLs_ref (by omega) gLs_nil) kk46 (hx40.n0 hA) ⟨by rw [hR]; decide, by rw [hR]; decide⟩ (fun w45 xw45 sw45 => ?_)
  replace h := g_nm (y := w45.2.2.2.2.1) h sw45
  refine v_topM (fun m44 em44 => ?_)
  replace h := g_nm h em44
  have wf47 : gWf w45.2.2.2.2.1 m44 := by rw [sw45, em44]; exact wf42.z _
  have lnw45 := g_ln sw45
  have hs48 := xw45.at hs36
  have hs49 := xw45.at hs37
  have hs50 := xw45.at hs38
  have C51 := C39.ext xw45
  have hx52 := hx40.trans xw45
  have hs53 := g_atn sw45
  change gV X w45 11 874 (gRN X w rs rm 19 1342) 1 35 [(0, .ref x0)] [.ref (w33.2.2.2.2.1.length), .ref x0] m44
  refine v_putF (pc := 35) (j := 2) C51 hin 17 rfl clX2 (by decide) rfl rfl (g_tb 181 (by decide +kernel) rfl) hs48 rfl ?_
  refine v_topM (fun m54 em54 => ?_)
  replace h := g_nm h em54
  have wf55 : gWf w45.2.2.2.2.1 m54 := by rw [em54]; exact wf47.r (by omega)
  refine v_aload_n (pc := 38) C51 18 0 rfl rfl rfl ?_
  refine v_bipush (pc := 39) C51 19 64 rfl (by decide) ?_
  obtain ⟨k59, h⟩ := g_okk h
  have kk59 := g_kB k59
  refine v_newa (pc := 41) C51 20 (64) rfl rfl (Or.inl rfl) (g_tb 162 (by decide +kernel) rfl) (by decide) (by decide) (by decide) wf55 (gLv_ref (by omega) gLv_nil) (gLs_ref (by omega) gLs_nil) kk59 (hx52.n0 hA) ⟨by rw [hR]; decide, by rw [hR]; decide⟩ (fun w58 xw58 sw58 => ?_)
  replace h := g_nm (y := w58.2.2.2.2.1) h sw58
  refine v_topM (fun m57 em57 => ?_)
  replace h := g_nm h em57
  have wf60 : gWf w58.2.2.2.2.1 m57 := by rw [sw58, em57]; exact wf55.z _
  have lnw58 := g_ln sw58
  have hs61 := xw58.at hs48
  have hs62 := xw58.at hs49
  have hs63 := xw58.at hs50
  have hs64 := xw58.at hs53
  have C65 := C51.ext xw58
  have hx66 := hx52.trans xw58
  have hs67 := g_atn sw58
  change gV X w58 12 938 (gRN X w rs rm 19 1342) 1 43 [(0, .ref x0)] [.ref (w45.2.2.2.2.1.length), .ref x0] m57
  refine v_putF (pc := 43) (j := 3) C65 hin 21 rfl clX2 (by decide) rfl rfl (g_tb 184 (by decide +kernel) rfl) hs61 rfl ?_
  refine v_topM (fun m68 em68 => ?_)
  replace h := g_nm h em68
  have wf69 : gWf w58.2.2.2.2.1 m68 := by rw [em68]; exact wf60.r (by omega)
  refine v_aload_n (pc := 46) C65 22 0 rfl rfl rfl ?_
  refine v_bipush (pc := 47) C65 23 64 rfl (by decide) ?_
  obtain ⟨k73, h⟩ := g_okk h
  have kk73 := g_kB k73
  refine v_newa (pc := 49) C65 24 (64) rfl rfl (Or.inr (Or.inl rfl)) (g_tb 163 (by decide +kernel) rfl) (by decide) (by decide) (by decide) wf69 (gLv_ref (by omega) gLv_nil) (gLs_ref (by omega) gLs_nil) kk73 (hx66.n0 hA) ⟨by rw [hR]; decide, by rw [hR]; decide⟩ (fun w72 xw72 sw72 => ?_)
  replace h := g_nm (y := w72.2.2.2.2.1) h sw72
  refine v_topM (fun m71 em71 => ?_)
  replace h := g_nm h em71
  have wf74 : gWf w72.2.2.2.2.1 m71 := by rw [sw72, em71]; exact wf69.z _
  have lnw72 := g_ln sw72
  have hs75 := xw72.at hs61
  have hs76 := xw72.at hs62
  have hs77 := xw72.at hs63
  have hs78 := xw72.at hs64
  have hs79 := xw72.at hs67
  have C80 := C65.ext xw72
  have hx81 := hx66.trans xw72
  have hs82 := g_atn sw72
  change gV X w72 13 1002 (gRN X w rs rm 19 1342) 1 51 [(0, .ref x0)] [.ref (w58.2.2.2.2.1.length), .ref x0] m71
  refine v_putF (pc := 51) (j := 4) C80 hin 25 rfl clX2 (by decide) rfl rfl (g_tb 187 (by decide +kernel) rfl) hs75 rfl ?_
  refine v_topM (fun m83 em83 => ?_)
  replace h := g_nm h em83
  have wf84 : gWf w72.2.2.2.2.1 m83 := by rw [em83]; exact wf74.r (by omega)
  refine v_aload_n (pc := 54) C80 26 0 rfl rfl rfl ?_
  refine v_bipush (pc := 55) C80 27 64 rfl (by decide) ?_
  obtain ⟨k88, h⟩ := g_okk h
  have kk88 := g_kB k88
  refine v_newa (pc := 57) C80 28 (64) rfl rfl (Or.inl rfl) (g_tb 162 (by decide +kernel) rfl) (by decide) (by decide) (by decide) wf84 (gLv_ref (by omega) gLv_nil) (gLs_ref (by omega) gLs_nil) kk88 (hx81.n0 hA) ⟨by rw [hR]; decide, by rw [hR]; decide⟩ (fun w87 xw87 sw87 => ?_)
  replace h := g_nm (y := w87.2.2.2.2.1) h sw87
  refine v_topM (fun m86 em86 => ?_)
  replace h := g_nm h em86
  have wf89 : gWf w87.2.2.2.2.1 m86 := by rw [sw87, em86]; exact wf84.z _
  have lnw87 := g_ln sw87
  have hs90 := xw87.at hs75
  have hs91 := xw87.at hs76
  have hs92 := xw87.at hs77
  have hs93 := xw87.at hs78
  have hs94 := xw87.at hs79
  have hs95 := xw87.at hs82
  have C96 := C80.ext xw87
  have hx97 := hx81.trans xw87
  have hs98 := g_atn sw87
  change gV X w87 14 1066 (gRN X w rs rm 19 1342) 1 59 [(0, .ref x0)] [.ref (w72.2.2.2.2.1.length), .ref x0] m86
  refine v_putF (pc := 59) (j := 5) C96 hin 29 rfl clX2 (by decide) rfl rfl (g_tb 190 (by decide +kernel) rfl) hs90 rfl ?_
  refine v_topM (fun m99 em99 => ?_)
  replace h := g_nm h em99
  have wf100 : gWf w87.2.2.2.2.1 m99 := by rw [em99]; exact wf89.r (by omega)
  refine v_aload_n (pc := 62) C96 30 0 rfl rfl rfl ?_
  refine v_bipush (pc := 63) C96 31 64 rfl (by decide) ?_
  obtain ⟨k104, h⟩ := g_okk h
  have kk104 := g_kB k104
  refine v_newa (pc := 65) C96 32 (64) rfl rfl (Or.inl rfl) (g_tb 162 (by decide +kernel) rfl) (by decide) (by decide) (by decide) wf100 (gLv_ref (by omega) gLv_nil) (gLs_ref (by omega) gLs_nil) kk104 (hx97.n0 hA) ⟨by rw [hR]; decide, by rw [hR]; decide⟩ (fun w103 xw103 sw103 => ?_)
  replace h := g_nm (y := w103.2.2.2.2.1) h sw103
  refine v_topM (fun m102 em102 => ?_)
  replace h := g_nm h em102
  have wf105 : gWf w103.2.2.2.2.1 m102 := by rw [sw103, em102]; exact wf100.z _
  have lnw103 := g_ln sw103
  have hs106 := xw103.at hs90
  have hs107 := xw103.at hs91
  have hs108 := xw103.at hs92
  have hs109 := xw103.at hs93
  have hs110 := xw103.at hs94
  have hs111 := xw103.at hs95
  have hs112 := xw103.at hs98
  have C113 := C96.ext xw103
  have hx114 := hx97.trans xw103
  have hs115 := g_atn sw103
  change gV X w103 15 1130 (gRN X w rs rm 19 1342) 1 67 [(0, .ref x0)] [.ref (w87.2.2.2.2.1.length), .ref x0] m102
  refine v_putF (pc := 67) (j := 6) C113 hin 33 rfl clX2 (by decide) rfl rfl (g_tb 192 (by decide +kernel) rfl) hs106 rfl ?_
  refine v_topM (fun m116 em116 => ?_)
  replace h := g_nm h em116
  have wf117 : gWf w103.2.2.2.2.1 m116 := by rw [em116]; exact wf105.r (by omega)
  refine v_aload_n (pc := 70) C113 34 0 rfl rfl rfl ?_
  refine v_bipush (pc := 71) C113 35 100 rfl (by decide) ?_
  obtain ⟨k121, h⟩ := g_okk h
  have kk121 := g_kB k121
  refine v_newa (pc := 73) C113 36 (100) rfl rfl (Or.inl rfl) (g_tb 162 (by decide +kernel) rfl) (by decide) (by decide) (by decide) wf117 (gLv_ref (by omega) gLv_nil) (gLs_ref (by omega) gLs_nil) kk121 (hx114.n0 hA) ⟨by rw [hR]; decide, by rw [hR]; decide⟩ (fun w120 xw120 sw120 => ?_)
  replace h := g_nm (y := w120.2.2.2.2.1) h sw120
  refine v_topM (fun m119 em119 => ?_)
  replace h := g_nm h em119
  have wf122 : gWf w120.2.2.2.2.1 m119 := by rw [sw120, em119]; exact wf117.z _
  have lnw120 := g_ln sw120
  have hs123 := xw120.at hs106
  have hs124 := xw120.at hs107
  have hs125 := xw120.at hs108
  have hs126 := xw120.at hs109
  have hs127 := xw120.at hs110
  have hs128 := xw120.at hs111
  have hs129 := xw120.at hs112
  have hs130 := xw120.at hs115
  have C131 := C113.ext xw120
  have hx132 := hx114.trans xw120
  have hs133 := g_atn sw120
  change gV X w120 16 1230 (gRN X w rs rm 19 1342) 1 75 [(0, .ref x0)] [.ref (w103.2.2.2.2.1.length), .ref x0] m119
  refine v_putF (pc := 75) (j := 7) C131 hin 37 rfl clX2 (by decide) rfl rfl (g_tb 195 (by decide +kernel) rfl) hs123 rfl ?_
  refine v_topM (fun m134 em134 => ?_)
  replace h := g_nm h em134
  have wf135 : gWf w120.2.2.2.2.1 m134 := by rw [em134]; exact wf122.r (by omega)
  refine v_aload_n (pc := 78) C131 38 0 rfl rfl rfl ?_
  refine v_bipush (pc := 79) C131 39 100 rfl (by decide) ?_
  obtain ⟨k139, h⟩ := g_okk h
  have kk139 := g_kB k139
  refine v_newa (pc := 81) C131 40 (100) rfl rfl (Or.inl rfl) (g_tb 162 (by decide +kernel) rfl) (by decide) (by decide) (by decide) wf135 (gLv_ref (by omega) gLv_nil) (gLs_ref (by omega) gLs_nil) kk139 (hx132.n0 hA) ⟨by rw [hR]; decide, by rw [hR]; decide⟩ (fun w138 xw138 sw138 => ?_)
  replace h := g_nm (y := w138.2.2.2.2.1) h sw138
  refine v_topM (fun m137 em137 => ?_)
  replace h := g_nm h em137
  have wf140 : gWf w138.2.2.2.2.1 m137 := by rw [sw138, em137]; exact wf135.z _
  have lnw138 := g_ln sw138
  have hs141 := xw138.at hs123
  have hs142 := xw138.at hs124
  have hs143 := xw138.at hs125
  have hs144 := xw138.at hs126
  have hs145 := xw138.at hs127
  have hs146 := xw138.at hs128
  have hs147 := xw138.at hs129
  have hs148 := xw138.at hs130
  have hs149 := xw138.at hs133
  have C150 := C131.ext xw138
  have hx151 := hx132.trans xw138
  have hs152 := g_atn sw138
  change gV X w138 17 1330 (gRN X w rs rm 19 1342) 1 83 [(0, .ref x0)] [.ref (w120.2.2.2.2.1.length), .ref x0] m137
  refine v_putF (pc := 83) (j := 8) C150 hin 41 rfl clX2 (by decide) rfl rfl (g_tb 198 (by decide +kernel) rfl) hs141 rfl ?_
  refine v_topM (fun m153 em153 => ?_)
  replace h := g_nm h em153
  have wf154 : gWf w138.2.2.2.2.1 m153 := by rw [em153]; exact wf140.r (by omega)
  refine v_aload_n (pc := 86) C150 42 0 rfl rfl rfl ?_
  refine v_bipush (pc := 87) C150 43 6 rfl (by decide) ?_
  obtain ⟨k158, h⟩ := g_okk h
  have kk158 := g_kB k158
  refine v_newa (pc := 89) C150 44 (6) rfl rfl (Or.inl rfl) (g_tb 162 (by decide +kernel) rfl) (by decide) (by decide) (by decide) wf154 (gLv_ref (by omega) gLv_nil) (gLs_ref (by omega) gLs_nil) kk158 (hx151.n0 hA) ⟨by rw [hR]; decide, by rw [hR]; decide⟩ (fun w157 xw157 sw157 => ?_)
  replace h := g_nm (y := w157.2.2.2.2.1) h sw157
  refine v_topM (fun m156 em156 => ?_)
  replace h := g_nm h em156
  have wf159 : gWf w157.2.2.2.2.1 m156 := by rw [sw157, em156]; exact wf154.z _
  have lnw157 := g_ln sw157
  have hs160 := xw157.at hs141
  have hs161 := xw157.at hs142
  have hs162 := xw157.at hs143
  have hs163 := xw157.at hs144
  have hs164 := xw157.at hs145
  have hs165 := xw157.at hs146
  have hs166 := xw157.at hs147
  have hs167 := xw157.at hs148
  have hs168 := xw157.at hs149
  have hs169 := xw157.at hs152
  have C170 := C150.ext xw157
  have hx171 := hx151.trans xw157
  have hs172 := g_atn sw157
  change gV X w157 18 1336 (gRN X w rs rm 19 1342) 1 91 [(0, .ref x0)] [.ref (w138.2.2.2.2.1.length), .ref x0] m156
  refine v_putF (pc := 91) (j := 9) C170 hin 45 rfl clX2 (by decide) rfl rfl (g_tb 200 (by decide +kernel) rfl) hs160 rfl ?_
  refine v_topM (fun m173 em173 => ?_)
  replace h := g_nm h em173
  have wf174 : gWf w157.2.2.2.2.1 m173 := by rw [em173]; exact wf159.r (by omega)
  refine v_aload_n (pc := 94) C170 46 0 rfl rfl rfl ?_
  refine v_bipush (pc := 95) C170 47 6 rfl (by decide) ?_
  obtain ⟨k178, h⟩ := g_okk h
  have kk178 := g_kB k178
  refine v_newa (pc := 97) C170 48 (6) rfl rfl (Or.inl rfl) (g_tb 162 (by decide +kernel) rfl) (by decide) (by decide) (by decide) wf174 (gLv_ref (by omega) gLv_nil) (gLs_ref (by omega) gLs_nil) kk178 (hx171.n0 hA) ⟨by rw [hR]; decide, by rw [hR]; decide⟩ (fun w177 xw177 sw177 => ?_)
  replace h := g_nm (y := w177.2.2.2.2.1) h sw177
  refine v_topM (fun m176 em176 => ?_)
  replace h := g_nm h em176
  have wf179 : gWf w177.2.2.2.2.1 m176 := by rw [sw177, em176]; exact wf174.z _
  have lnw177 := g_ln sw177
  have hs180 := xw177.at hs160
  have hs181 := xw177.at hs161
  have hs182 := xw177.at hs162
  have hs183 := xw177.at hs163
  have hs184 := xw177.at hs164
  have hs185 := xw177.at hs165
  have hs186 := xw177.at hs166
  have hs187 := xw177.at hs167
  have hs188 := xw177.at hs168
  have hs189 := xw177.at hs169
  have hs190 := xw177.at hs172
  have C191 := C170.ext xw177
  have hx192 := hx171.trans xw177
  have hs193 := g_atn sw177
  change gV X w177 19 1342 (gRN X w rs rm 19 1342) 1 99 [(0, .ref x0)] [.ref (w157.2.2.2.2.1.length), .ref x0] m176
  refine v_putF (pc := 99) (j := 10) C191 hin 49 rfl clX2 (by decide) rfl rfl (g_tb 202 (by decide +kernel) rfl) hs180 rfl ?_
  refine v_topM (fun m194 em194 => ?_)
  replace h := g_nm h em194
  have wf195 : gWf w177.2.2.2.2.1 m194 := by rw [em194]; exact wf179.r (by omega)
  refine v_aload_n (pc := 102) C191 50 0 rfl rfl rfl ?_
  obtain ⟨m196, qm196, h⟩ := g_bd h
  refine v_callV (pc := 103) C191 51 rfl mf_X2_empty clX2 rfl im_X2_empty lm_ScopeGraph_Program_52 (c_X2_empty C191.2.2.2.2.2.2.2.2.2.2.2 qm196) (by decide) rfl hs180 (Nat.le_of_ble_eq_true rfl) ⟨by rw [hR]; decide, by rw [hR]; decide⟩ rfl ?_
  have wf197 : gWf w177.2.2.2.2.1 m196 := by unfold gWf; rw [r_X2_empty qm196]; exact wf195
  change gV X w177 19 1342 (gRN X w rs rm 19 1342) 1 106 [(0, .ref x0)] [] m196
  obtain ⟨rfl, rfl⟩ := g_so h
  exact v_vretN hx192 wf197 (pc := 106) C191 52 rfl hr
theorem c_X2_init {l : Launch} {w : gW} {rs : List gS} {rm m : gM} (hJ : gJok w) (wf : gWf w.2.2.2.2.1 m) {F : Nat} {x0 : Nat} (h : f_X2_init w.2.2.2.2.1 F x0 m = some (rs, rm)) : gMN l 2 19 1342 yX2_init cX2_init 1 w [.ref x0] m rs rm := by
  have h0 := h
  unfold f_X2_init at h0
  exact gMN.of hJ mf_X2_init dk_X2_init (Nat.le_of_ble_eq_true rfl) rfl (g_oB (g_okk h0).1) (fun X _ C hR hr hin hA => tf_X2_init (F := F) C hR hr hin hA wf h)
set_option maxRecDepth 100000 in
def f_X3_init (sh : List gS) (F : Nat) (x0 : Nat) (x1 : Nat) (m : gM) : Option (List gS × gM) :=
  g_if (oB sh x0 3) (g_if (decide (x1 < sh.length)) (g_if (kB sh) (nm (sh ++ [.inl 6]) (fun sh1 => nm (gz m sh.length) (fun m2 => (f_X6_init sh1 F (sh.length) m2).bind (fun q13 => nm q13.1 (fun sh10 => nm q13.2 (fun m11 => nm (gsR m11 x0 0 (some (sh.length))) (fun m19 => g_if (kB sh10) (nm (sh10 ++ [.inr (.int, 96)]) (fun sh21 => nm (gz m19 sh10.length) (fun m22 => nm (gsR m22 x0 1 (some (sh10.length))) (fun m31 => g_if (kB sh21) (nm (sh21 ++ [.inr (.int, 96)]) (fun sh33 => nm (gz m31 sh21.length) (fun m34 => nm (gsR m34 x0 2 (some (sh21.length))) (fun m44 => g_if (kB sh33) (nm (sh33 ++ [.inr (.int, 96)]) (fun sh46 => nm (gz m44 sh33.length) (fun m47 => nm (gsR m47 x0 3 (some (sh33.length))) (fun m58 => nm (gsR m58 x0 4 (some x1)) (fun m60 => some (sh46, m60)))))))))))))))))))))))
set_option maxRecDepth 100000 in
set_option maxHeartbeats 8000000 in
theorem tf_X3_init {X : gX} {w : gW} {rs : List gS} {rm : gM} (C : gC X w K_X3_init 2 RX3 2) (hR : X.2.2.2.1 = g_rn 2 4 293) (hr : X.2.2.2.2.2.2.2.2.1.sig.returnType = none) (hin : X.2.2.2.2.2.2.2.2.1.name = "<init>") (hA : w.2.2.2.1 ≤ X.2.2.2.2.1.heap.size) {m : gM} (wf : gWf w.2.2.2.2.1 m) {F : Nat} {x0 : Nat} {x1 : Nat} (h : f_X3_init w.2.2.2.2.1 F x0 x1 m = some (rs, rm)) : gV X w 0 0 (gRN X w rs rm 4 293) 2 0 [(0, .ref x0), (1, .ref x1)] [] m := by
  have hx := gEx.refl w
  unfold f_X3_init at h
  obtain ⟨o0, h⟩ := g_okk h
  have hsA := g_oB o0
  have ltA := g_olt o0
  obtain ⟨p1, h⟩ := g_okk h
  have lt1 := of_decide_eq_true p1
  refine v_aload_n (pc := 0) C 0 0 rfl rfl rfl ?_
  refine v_objInit (pc := 1) C 1 rfl (g_tb 267 (by decide +kernel) rfl) (g_tb 105 (by decide +kernel) rfl) (g_tb 106 (by decide +kernel) (by decide +kernel)) (by decide) (Nat.le_of_ble_eq_true rfl) ?_
  refine v_aload_n (pc := 4) C 2 0 rfl rfl rfl ?_
  obtain ⟨k4, h⟩ := g_okk h
  have kk4 := g_kB k4
  refine v_new (pc := 5) C 3 rfl clX6 ⟨g_tb 268 (by decide +kernel) rfl, g_tb 269 (by decide +kernel) rfl, g_tb 83 (by decide +kernel) rfl⟩ (by decide) wf (gLv_ref (by omega) (gLv_ref (by omega) gLv_nil)) (gLs_ref (by omega) gLs_nil) kk4 (hx.n0 hA) ⟨by rw [hR]; decide, by rw [hR]; decide⟩ (fun w3 xw3 sw3 => ?_)
  replace h := g_nm (y := w3.2.2.2.2.1) h sw3
  refine v_topM (fun m2 em2 => ?_)
  replace h := g_nm h em2
  have wf5 : gWf w3.2.2.2.2.1 m2 := by rw [sw3, em2]; exact wf.z _
  have lnw3 := g_ln sw3
  have hs6 := xw3.at hsA
  have C7 := C.ext xw3
  have hx8 := hx.trans xw3
  have hs9 := g_atn sw3
  change gV X w3 1 5 (gRN X w rs rm 4 293) 2 8 [(0, .ref x0), (1, .ref x1)] [.ref (w.2.2.2.2.1.length), .ref x0] m2
  refine v_dup (pc := 8) C7 4 rfl rfl ?_
  obtain ⟨⟨sw12, m11⟩, qw12, h⟩ := g_bd h
  replace h := g_nm (y := m11) (g_nm (y := sw12) h rfl) rfl
  refine v_callI (pc := 9) (st := [.ref (w.2.2.2.2.1.length), .ref x0]) (av := []) C7 5 rfl mf_X6_init rfl (g_tb 271 (by decide +kernel) rfl) lm_ScopeGraph_Reader_11 (c_X6_init C7.2.2.2.2.2.2.2.2.2.2.2 wf5 qw12) (by decide) rfl (gLv_ref (by omega) (gLv_ref (by omega) gLv_nil)) (gLs_ref (by omega) (gLs_ref (by omega) gLs_nil)) (Nat.le_of_ble_eq_true rfl) ⟨by rw [hR]; decide, by rw [hR]; decide⟩ rfl (fun w12 xw12 zw12 yw12 => ?_)
  subst zw12
  have wf14 := yw12
  have lnw12 := xw12.le
  have hs15 := xw12.at hs6
  have hs16 := xw12.at hs9
  have C17 := C7.ext xw12
  have hx18 := hx8.trans xw12
  change gV X w12 1 5 (gRN X w rs rm 4 293) 2 12 [(0, .ref x0), (1, .ref x1)] [.ref (w.2.2.2.2.1.length), .ref x0] m11
  refine v_putF (pc := 12) (j := 0) C17 hin 6 rfl clX3 (by decide) rfl rfl (g_tb 300 (by decide +kernel) rfl) hs15 rfl ?_
  refine v_topM (fun m19 em19 => ?_)
  replace h := g_nm h em19
  have wf20 : gWf w12.2.2.2.2.1 m19 := by rw [em19]; exact wf14.r (by omega)
  refine v_aload_n (pc := 15) C17 7 0 rfl rfl rfl ?_
  refine v_bipush (pc := 16) C17 8 96 rfl (by decide) ?_
  obtain ⟨k24, h⟩ := g_okk h
  have kk24 := g_kB k24
  refine v_newa (pc := 18) C17 9 (96) rfl rfl (Or.inl rfl) (g_tb 162 (by decide +kernel) rfl) (by decide) (by decide) (by decide) wf20 (gLv_ref (by omega) (gLv_ref (by omega) gLv_nil)) (gLs_ref (by omega) gLs_nil) kk24 (hx18.n0 hA) ⟨by rw [hR]; decide, by rw [hR]; decide⟩ (fun w23 xw23 sw23 => ?_)
  replace h := g_nm (y := w23.2.2.2.2.1) h sw23
  refine v_topM (fun m22 em22 => ?_)
  replace h := g_nm h em22
  have wf25 : gWf w23.2.2.2.2.1 m22 := by rw [sw23, em22]; exact wf20.z _
  have lnw23 := g_ln sw23
  have hs26 := xw23.at hs15
  have hs27 := xw23.at hs16
  have C28 := C17.ext xw23
  have hx29 := hx18.trans xw23
  have hs30 := g_atn sw23
  change gV X w23 2 101 (gRN X w rs rm 4 293) 2 20 [(0, .ref x0), (1, .ref x1)] [.ref (w12.2.2.2.2.1.length), .ref x0] m22
  refine v_putF (pc := 20) (j := 1) C28 hin 10 rfl clX3 (by decide) rfl rfl (g_tb 302 (by decide +kernel) rfl) hs26 rfl ?_
  refine v_topM (fun m31 em31 => ?_)
  replace h := g_nm h em31
  have wf32 : gWf w23.2.2.2.2.1 m31 := by rw [em31]; exact wf25.r (by omega)
  refine v_aload_n (pc := 23) C28 11 0 rfl rfl rfl ?_
  refine v_bipush (pc := 24) C28 12 96 rfl (by decide) ?_
  obtain ⟨k36, h⟩ := g_okk h
  have kk36 := g_kB k36
  refine v_newa (pc := 26) C28 13 (96) rfl rfl (Or.inl rfl) (g_tb 162 (by decide +kernel) rfl) (by decide) (by decide) (by decide) wf32 (gLv_ref (by omega) (gLv_ref (by omega) gLv_nil)) (gLs_ref (by omega) gLs_nil) kk36 (hx29.n0 hA) ⟨by rw [hR]; decide, by rw [hR]; decide⟩ (fun w35 xw35 sw35 => ?_)
  replace h := g_nm (y := w35.2.2.2.2.1) h sw35
  refine v_topM (fun m34 em34 => ?_)
  replace h := g_nm h em34
  have wf37 : gWf w35.2.2.2.2.1 m34 := by rw [sw35, em34]; exact wf32.z _
  have lnw35 := g_ln sw35
  have hs38 := xw35.at hs26
  have hs39 := xw35.at hs27
  have hs40 := xw35.at hs30
  have C41 := C28.ext xw35
  have hx42 := hx29.trans xw35
  have hs43 := g_atn sw35
  change gV X w35 3 197 (gRN X w rs rm 4 293) 2 28 [(0, .ref x0), (1, .ref x1)] [.ref (w23.2.2.2.2.1.length), .ref x0] m34
  refine v_putF (pc := 28) (j := 2) C41 hin 14 rfl clX3 (by decide) rfl rfl (g_tb 303 (by decide +kernel) rfl) hs38 rfl ?_
  refine v_topM (fun m44 em44 => ?_)
  replace h := g_nm h em44
  have wf45 : gWf w35.2.2.2.2.1 m44 := by rw [em44]; exact wf37.r (by omega)
  refine v_aload_n (pc := 31) C41 15 0 rfl rfl rfl ?_
  refine v_bipush (pc := 32) C41 16 96 rfl (by decide) ?_
  obtain ⟨k49, h⟩ := g_okk h
  have kk49 := g_kB k49
  refine v_newa (pc := 34) C41 17 (96) rfl rfl (Or.inl rfl) (g_tb 162 (by decide +kernel) rfl) (by decide) (by decide) (by decide) wf45 (gLv_ref (by omega) (gLv_ref (by omega) gLv_nil)) (gLs_ref (by omega) gLs_nil) kk49 (hx42.n0 hA) ⟨by rw [hR]; decide, by rw [hR]; decide⟩ (fun w48 xw48 sw48 => ?_)
  replace h := g_nm (y := w48.2.2.2.2.1) h sw48
  refine v_topM (fun m47 em47 => ?_)
  replace h := g_nm h em47
  have wf50 : gWf w48.2.2.2.2.1 m47 := by rw [sw48, em47]; exact wf45.z _
  have lnw48 := g_ln sw48
  have hs51 := xw48.at hs38
  have hs52 := xw48.at hs39
  have hs53 := xw48.at hs40
  have hs54 := xw48.at hs43
  have C55 := C41.ext xw48
  have hx56 := hx42.trans xw48
  have hs57 := g_atn sw48
  change gV X w48 4 293 (gRN X w rs rm 4 293) 2 36 [(0, .ref x0), (1, .ref x1)] [.ref (w35.2.2.2.2.1.length), .ref x0] m47
  refine v_putF (pc := 36) (j := 3) C55 hin 18 rfl clX3 (by decide) rfl rfl (g_tb 304 (by decide +kernel) rfl) hs51 rfl ?_
  refine v_topM (fun m58 em58 => ?_)
  replace h := g_nm h em58
  have wf59 : gWf w48.2.2.2.2.1 m58 := by rw [em58]; exact wf50.r (by omega)
  refine v_aload_n (pc := 39) C55 19 0 rfl rfl rfl ?_
  refine v_aload_n (pc := 40) C55 20 1 rfl rfl rfl ?_
  refine v_putR (pc := 41) C55 21 rfl lf_ScopeGraph_Reader_28 hs51 rfl ?_
  refine v_topM (fun m60 em60 => ?_)
  replace h := g_nm h em60
  have wf61 : gWf w48.2.2.2.2.1 m60 := by rw [em60]; exact wf59.r (by omega)
  obtain ⟨rfl, rfl⟩ := g_so h
  exact v_vretN hx56 wf61 (pc := 44) C55 22 rfl hr
theorem c_X3_init {l : Launch} {w : gW} {rs : List gS} {rm m : gM} (hJ : gJok w) (wf : gWf w.2.2.2.2.1 m) {F : Nat} {x0 : Nat} {x1 : Nat} (h : f_X3_init w.2.2.2.2.1 F x0 x1 m = some (rs, rm)) : gMN l 2 4 293 yX3_init cX3_init 2 w [.ref x0, .ref x1] m rs rm := by
  have h0 := h
  unfold f_X3_init at h0
  exact gMN.of hJ mf_X3_init dk_X3_init (Nat.le_of_ble_eq_true rfl) rfl (g_oB (g_okk h0).1) (fun X _ C hR hr hin hA => tf_X3_init (F := F) C hR hr hin hA wf h)
set_option maxRecDepth 100000 in
def f_X7_init (sh : List gS) (F : Nat) (x0 : Nat) (m : gM) : Option (List gS × gM) :=
  g_if (oB sh x0 7) (g_if (kB sh) (nm (sh ++ [.inl 5]) (fun sh1 => nm (gz m sh.length) (fun m2 => (f_X5_init sh1 F (sh.length) m2).bind (fun q13 => nm q13.1 (fun sh10 => nm q13.2 (fun m11 => nm (gsR m11 x0 0 (some (sh.length))) (fun m19 => g_if (kB sh10) (nm (sh10 ++ [.inl 5]) (fun sh21 => nm (gz m19 sh10.length) (fun m22 => (f_X5_init sh21 F (sh10.length) m22).bind (fun q34 => nm q34.1 (fun sh31 => nm q34.2 (fun m32 => nm (gsR m32 x0 1 (some (sh10.length))) (fun m41 => g_if (kB sh31) (nm (sh31 ++ [.inl 2]) (fun sh43 => nm (gz m41 sh31.length) (fun m44 => (f_X2_init sh43 F (sh31.length) m44).bind (fun q57 => nm q57.1 (fun sh54 => nm q57.2 (fun m55 => nm (gsR m55 x0 2 (some (sh31.length))) (fun m65 => g_if (kB sh54) (nm (sh54 ++ [.inl 2]) (fun sh67 => nm (gz m65 sh54.length) (fun m68 => (f_X2_init sh67 F (sh54.length) m68).bind (fun q82 => nm q82.1 (fun sh79 => nm q82.2 (fun m80 => nm (gsR m80 x0 3 (some (sh54.length))) (fun m91 => g_if (kB sh79) (nm (sh79 ++ [.inl 1]) (fun sh93 => nm (gz m91 sh79.length) (fun m94 => (f_X1_init sh93 F (sh79.length) m94).bind (fun q109 => nm q109.1 (fun sh106 => nm q109.2 (fun m107 => nm (gsR m107 x0 4 (some (sh79.length))) (fun m119 => g_if (kB sh106) (nm (sh106 ++ [.inl 1]) (fun sh121 => nm (gz m119 sh106.length) (fun m122 => (f_X1_init sh121 F (sh106.length) m122).bind (fun q138 => nm q138.1 (fun sh135 => nm q138.2 (fun m136 => nm (gsR m136 x0 5 (some (sh106.length))) (fun m149 => g_if (kB sh135) (nm (sh135 ++ [.inl 3]) (fun sh151 => nm (gz m149 sh135.length) (fun m152 => (m152.2.2 x0 3).bind (fun t166 => (f_X3_init sh151 F (sh135.length) t166 m152).bind (fun q170 => nm q170.1 (fun sh167 => nm q170.2 (fun m168 => nm (gsR m168 x0 6 (some (sh135.length))) (fun m182 => g_if (kB sh167) (nm (sh167 ++ [.inl 4]) (fun sh184 => nm (gz m182 sh167.length) (fun m185 => (m185.2.2 x0 2).bind (fun t200 => (m185.2.2 x0 4).bind (fun t201 => (f_X4_init sh184 F (sh167.length) t200 t201 m185).bind (fun q205 => nm q205.1 (fun sh202 => nm q205.2 (fun m203 => nm (gsR m203 x0 7 (some (sh167.length))) (fun m218 => nm (gsI m218 x0 8 0) (fun m220 => some (sh202, m220))))))))))))))))))))))))))))))))))))))))))))))))))))))))))))))
set_option maxRecDepth 100000 in
set_option maxHeartbeats 8000000 in
theorem tf_X7_init {X : gX} {w : gW} {rs : List gS} {rm : gM} (C : gC X w K_X7_init 1 RX7 3) (hR : X.2.2.2.1 = g_rn 3 61 12214) (hr : X.2.2.2.2.2.2.2.2.1.sig.returnType = none) (hin : X.2.2.2.2.2.2.2.2.1.name = "<init>") (hA : w.2.2.2.1 ≤ X.2.2.2.2.1.heap.size) {m : gM} (wf : gWf w.2.2.2.2.1 m) {F : Nat} {x0 : Nat} (h : f_X7_init w.2.2.2.2.1 F x0 m = some (rs, rm)) : gV X w 0 0 (gRN X w rs rm 61 12214) 1 0 [(0, .ref x0)] [] m := by
  have hx := gEx.refl w
  unfold f_X7_init at h
  obtain ⟨o0, h⟩ := g_okk h
  have hsA := g_oB o0
  have ltA := g_olt o0
  refine v_aload_n (pc := 0) C 0 0 rfl rfl rfl ?_
  refine v_objInit (pc := 1) C 1 rfl (g_tb 104 (by decide +kernel) rfl) (g_tb 105 (by decide +kernel) rfl) (g_tb 106 (by decide +kernel) (by decide +kernel)) (by decide) (Nat.le_of_ble_eq_true rfl) ?_
  refine v_aload_n (pc := 4) C 2 0 rfl rfl rfl ?_
  obtain ⟨k4, h⟩ := g_okk h
  have kk4 := g_kB k4
  refine v_new (pc := 5) C 3 rfl clX5 ⟨g_tb 107 (by decide +kernel) rfl, g_tb 108 (by decide +kernel) rfl, g_tb 78 (by decide +kernel) rfl⟩ (by decide) wf (gLv_ref (by omega) gLv_nil) (gLs_ref (by omega) gLs_nil) kk4 (hx.n0 hA) ⟨by rw [hR]; decide, by rw [hR]; decide⟩ (fun w3 xw3 sw3 => ?_)
  replace h := g_nm (y := w3.2.2.2.2.1) h sw3
  refine v_topM (fun m2 em2 => ?_)
  replace h := g_nm h em2
  have wf5 : gWf w3.2.2.2.2.1 m2 := by rw [sw3, em2]; exact wf.z _
  have lnw3 := g_ln sw3
  have hs6 := xw3.at hsA
  have C7 := C.ext xw3
  have hx8 := hx.trans xw3
  have hs9 := g_atn sw3
  change gV X w3 1 2 (gRN X w rs rm 61 12214) 1 8 [(0, .ref x0)] [.ref (w.2.2.2.2.1.length), .ref x0] m2
  refine v_dup (pc := 8) C7 4 rfl rfl ?_
  obtain ⟨⟨sw12, m11⟩, qw12, h⟩ := g_bd h
  replace h := g_nm (y := m11) (g_nm (y := sw12) h rfl) rfl
  refine v_callI (pc := 9) (st := [.ref (w.2.2.2.2.1.length), .ref x0]) (av := []) C7 5 rfl mf_X5_init rfl (g_tb 110 (by decide +kernel) rfl) lm_ScopeGraph_9 (c_X5_init C7.2.2.2.2.2.2.2.2.2.2.2 wf5 qw12) (by decide) rfl (gLv_ref (by omega) gLv_nil) (gLs_ref (by omega) (gLs_ref (by omega) gLs_nil)) (Nat.le_of_ble_eq_true rfl) ⟨by rw [hR]; decide, by rw [hR]; decide⟩ rfl (fun w12 xw12 zw12 yw12 => ?_)
  subst zw12
  have wf14 := yw12
  have lnw12 := xw12.le
  have hs15 := xw12.at hs6
  have hs16 := xw12.at hs9
  have C17 := C7.ext xw12
  have hx18 := hx8.trans xw12
  change gV X w12 2 4002 (gRN X w rs rm 61 12214) 1 12 [(0, .ref x0)] [.ref (w.2.2.2.2.1.length), .ref x0] m11
  refine v_putR (pc := 12) C17 6 rfl lf_ScopeGraph_10 hs15 rfl ?_
  refine v_topM (fun m19 em19 => ?_)
  replace h := g_nm h em19
  have wf20 : gWf w12.2.2.2.2.1 m19 := by rw [em19]; exact wf14.r (by omega)
  refine v_aload_n (pc := 15) C17 7 0 rfl rfl rfl ?_
  obtain ⟨k24, h⟩ := g_okk h
  have kk24 := g_kB k24
  refine v_new (pc := 16) C17 8 rfl clX5 ⟨g_tb 107 (by decide +kernel) rfl, g_tb 108 (by decide +kernel) rfl, g_tb 78 (by decide +kernel) rfl⟩ (by decide) wf20 (gLv_ref (by omega) gLv_nil) (gLs_ref (by omega) gLs_nil) kk24 (hx18.n0 hA) ⟨by rw [hR]; decide, by rw [hR]; decide⟩ (fun w23 xw23 sw23 => ?_)
  replace h := g_nm (y := w23.2.2.2.2.1) h sw23
  refine v_topM (fun m22 em22 => ?_)
  replace h := g_nm h em22
  have wf25 : gWf w23.2.2.2.2.1 m22 := by rw [sw23, em22]; exact wf20.z _
  have lnw23 := g_ln sw23
  have hs26 := xw23.at hs15
  have hs27 := xw23.at hs16
  have C28 := C17.ext xw23
  have hx29 := hx18.trans xw23
  have hs30 := g_atn sw23
  change gV X w23 3 4004 (gRN X w rs rm 61 12214) 1 19 [(0, .ref x0)] [.ref (w12.2.2.2.2.1.length), .ref x0] m22
  refine v_dup (pc := 19) C28 9 rfl rfl ?_
  obtain ⟨⟨sw33, m32⟩, qw33, h⟩ := g_bd h
  replace h := g_nm (y := m32) (g_nm (y := sw33) h rfl) rfl
  refine v_callI (pc := 20) (st := [.ref (w12.2.2.2.2.1.length), .ref x0]) (av := []) C28 10 rfl mf_X5_init rfl (g_tb 110 (by decide +kernel) rfl) lm_ScopeGraph_9 (c_X5_init C28.2.2.2.2.2.2.2.2.2.2.2 wf25 qw33) (by decide) rfl (gLv_ref (by omega) gLv_nil) (gLs_ref (by omega) (gLs_ref (by omega) gLs_nil)) (Nat.le_of_ble_eq_true rfl) ⟨by rw [hR]; decide, by rw [hR]; decide⟩ rfl (fun w33 xw33 zw33 yw33 => ?_)
  subst zw33
  have wf35 := yw33
  have lnw33 := xw33.le
  have hs36 := xw33.at hs26
  have hs37 := xw33.at hs27
  have hs38 := xw33.at hs30
  have C39 := C28.ext xw33
  have hx40 := hx29.trans xw33
  change gV X w33 4 8004 (gRN X w rs rm 61 12214) 1 23 [(0, .ref x0)] [.ref (w12.2.2.2.2.1.length), .ref x0] m32
  refine v_putR (pc := 23) C39 11 rfl lf_ScopeGraph_16 hs36 rfl ?_
  refine v_topM (fun m41 em41 => ?_)
  replace h := g_nm h em41
  have wf42 : gWf w33.2.2.2.2.1 m41 := by rw [em41]; exact wf35.r (by omega)
  refine v_aload_n (pc := 26) C39 12 0 rfl rfl rfl ?_
  obtain ⟨k46, h⟩ := g_okk h
  have kk46 := g_kB k46
  refine v_new (pc := 27) C39 13 rfl clX2 ⟨g_tb 123 (by decide +kernel) rfl, g_tb 124 (by decide +kernel) rfl, g_tb 79 (by decide +kernel) rfl⟩ (by decide) wf42 (gLv_ref (by omega) gLv_nil) (gLs_ref (by omega) gLs_nil) kk46 (hx40.n0 hA) ⟨by rw [hR]; decide, by rw [hR]; decide⟩ (fun w45 xw45 sw45 => ?_)
  replace h := g_nm (y := w45.2.2.2.2.1) h sw45
  refine v_topM (fun m44 em44 => ?_)
  replace h := g_nm h em44
  have wf47 : gWf w45.2.2.2.2.1 m44 := by rw [sw45, em44]; exact wf42.z _
  have lnw45 := g_ln sw45
  have hs48 := xw45.at hs36
  have hs49 := xw45.at hs37
  have hs50 := xw45.at hs38
  have C51 := C39.ext xw45
  have hx52 := hx40.trans xw45
  have hs53 := g_atn sw45
  change gV X w45 5 8017 (gRN X w rs rm 61 12214) 1 30 [(0, .ref x0)] [.ref (w33.2.2.2.2.1.length), .ref x0] m44
  refine v_dup (pc := 30) C51 14 rfl rfl ?_
  obtain ⟨⟨sw56, m55⟩, qw56, h⟩ := g_bd h
  replace h := g_nm (y := m55) (g_nm (y := sw56) h rfl) rfl
  refine v_callI (pc := 31) (st := [.ref (w33.2.2.2.2.1.length), .ref x0]) (av := []) C51 15 rfl mf_X2_init rfl (g_tb 126 (by decide +kernel) rfl) lm_ScopeGraph_21 (c_X2_init C51.2.2.2.2.2.2.2.2.2.2.2 wf47 qw56) (by decide) rfl (gLv_ref (by omega) gLv_nil) (gLs_ref (by omega) (gLs_ref (by omega) gLs_nil)) (Nat.le_of_ble_eq_true rfl) ⟨by rw [hR]; decide, by rw [hR]; decide⟩ rfl (fun w56 xw56 zw56 yw56 => ?_)
  subst zw56
  have wf58 := yw56
  have lnw56 := xw56.le
  have hs59 := xw56.at hs48
  have hs60 := xw56.at hs49
  have hs61 := xw56.at hs50
  have hs62 := xw56.at hs53
  have C63 := C51.ext xw56
  have hx64 := hx52.trans xw56
  change gV X w56 24 9359 (gRN X w rs rm 61 12214) 1 34 [(0, .ref x0)] [.ref (w33.2.2.2.2.1.length), .ref x0] m55
  refine v_putR (pc := 34) C63 16 rfl lf_ScopeGraph_22 hs59 rfl ?_
  refine v_topM (fun m65 em65 => ?_)
  replace h := g_nm h em65
  have wf66 : gWf w56.2.2.2.2.1 m65 := by rw [em65]; exact wf58.r (by omega)
  refine v_aload_n (pc := 37) C63 17 0 rfl rfl rfl ?_
  obtain ⟨k70, h⟩ := g_okk h
  have kk70 := g_kB k70
  refine v_new (pc := 38) C63 18 rfl clX2 ⟨g_tb 123 (by decide +kernel) rfl, g_tb 124 (by decide +kernel) rfl, g_tb 79 (by decide +kernel) rfl⟩ (by decide) wf66 (gLv_ref (by omega) gLv_nil) (gLs_ref (by omega) gLs_nil) kk70 (hx64.n0 hA) ⟨by rw [hR]; decide, by rw [hR]; decide⟩ (fun w69 xw69 sw69 => ?_)
  replace h := g_nm (y := w69.2.2.2.2.1) h sw69
  refine v_topM (fun m68 em68 => ?_)
  replace h := g_nm h em68
  have wf71 : gWf w69.2.2.2.2.1 m68 := by rw [sw69, em68]; exact wf66.z _
  have lnw69 := g_ln sw69
  have hs72 := xw69.at hs59
  have hs73 := xw69.at hs60
  have hs74 := xw69.at hs61
  have hs75 := xw69.at hs62
  have C76 := C63.ext xw69
  have hx77 := hx64.trans xw69
  have hs78 := g_atn sw69
  change gV X w69 25 9372 (gRN X w rs rm 61 12214) 1 41 [(0, .ref x0)] [.ref (w56.2.2.2.2.1.length), .ref x0] m68
  refine v_dup (pc := 41) C76 19 rfl rfl ?_
  obtain ⟨⟨sw81, m80⟩, qw81, h⟩ := g_bd h
  replace h := g_nm (y := m80) (g_nm (y := sw81) h rfl) rfl
  refine v_callI (pc := 42) (st := [.ref (w56.2.2.2.2.1.length), .ref x0]) (av := []) C76 20 rfl mf_X2_init rfl (g_tb 126 (by decide +kernel) rfl) lm_ScopeGraph_21 (c_X2_init C76.2.2.2.2.2.2.2.2.2.2.2 wf71 qw81) (by decide) rfl (gLv_ref (by omega) gLv_nil) (gLs_ref (by omega) (gLs_ref (by omega) gLs_nil)) (Nat.le_of_ble_eq_true rfl) ⟨by rw [hR]; decide, by rw [hR]; decide⟩ rfl (fun w81 xw81 zw81 yw81 => ?_)
  subst zw81
  have wf83 := yw81
  have lnw81 := xw81.le
  have hs84 := xw81.at hs72
  have hs85 := xw81.at hs73
  have hs86 := xw81.at hs74
  have hs87 := xw81.at hs75
  have hs88 := xw81.at hs78
  have C89 := C76.ext xw81
  have hx90 := hx77.trans xw81
  change gV X w81 44 10714 (gRN X w rs rm 61 12214) 1 45 [(0, .ref x0)] [.ref (w56.2.2.2.2.1.length), .ref x0] m80
  refine v_putR (pc := 45) C89 21 rfl lf_ScopeGraph_26 hs84 rfl ?_
  refine v_topM (fun m91 em91 => ?_)
  replace h := g_nm h em91
  have wf92 : gWf w81.2.2.2.2.1 m91 := by rw [em91]; exact wf83.r (by omega)
  refine v_aload_n (pc := 48) C89 22 0 rfl rfl rfl ?_
  obtain ⟨k96, h⟩ := g_okk h
  have kk96 := g_kB k96
  refine v_new (pc := 49) C89 23 rfl clX1 ⟨g_tb 236 (by decide +kernel) rfl, g_tb 237 (by decide +kernel) rfl, g_tb 81 (by decide +kernel) rfl⟩ (by decide) wf92 (gLv_ref (by omega) gLv_nil) (gLs_ref (by omega) gLs_nil) kk96 (hx90.n0 hA) ⟨by rw [hR]; decide, by rw [hR]; decide⟩ (fun w95 xw95 sw95 => ?_)
  replace h := g_nm (y := w95.2.2.2.2.1) h sw95
  refine v_topM (fun m94 em94 => ?_)
  replace h := g_nm h em94
  have wf97 : gWf w95.2.2.2.2.1 m94 := by rw [sw95, em94]; exact wf92.z _
  have lnw95 := g_ln sw95
  have hs98 := xw95.at hs84
  have hs99 := xw95.at hs85
  have hs100 := xw95.at hs86
  have hs101 := xw95.at hs87
  have hs102 := xw95.at hs88
  have C103 := C89.ext xw95
  have hx104 := hx90.trans xw95
  have hs105 := g_atn sw95
  change gV X w95 45 10718 (gRN X w rs rm 61 12214) 1 52 [(0, .ref x0)] [.ref (w81.2.2.2.2.1.length), .ref x0] m94
  refine v_dup (pc := 52) C103 24 rfl rfl ?_
  obtain ⟨⟨sw108, m107⟩, qw108, h⟩ := g_bd h
  replace h := g_nm (y := m107) (g_nm (y := sw108) h rfl) rfl
  refine v_callI (pc := 53) (st := [.ref (w81.2.2.2.2.1.length), .ref x0]) (av := []) C103 25 rfl mf_X1_init rfl (g_tb 239 (by decide +kernel) rfl) lm_ScopeGraph_31 (c_X1_init C103.2.2.2.2.2.2.2.2.2.2.2 wf97 qw108) (by decide) rfl (gLv_ref (by omega) gLv_nil) (gLs_ref (by omega) (gLs_ref (by omega) gLs_nil)) (Nat.le_of_ble_eq_true rfl) ⟨by rw [hR]; decide, by rw [hR]; decide⟩ rfl (fun w108 xw108 zw108 yw108 => ?_)
  subst zw108
  have wf110 := yw108
  have lnw108 := xw108.le
  have hs111 := xw108.at hs98
  have hs112 := xw108.at hs99
  have hs113 := xw108.at hs100
  have hs114 := xw108.at hs101
  have hs115 := xw108.at hs102
  have hs116 := xw108.at hs105
  have C117 := C103.ext xw108
  have hx118 := hx104.trans xw108
  change gV X w108 49 11118 (gRN X w rs rm 61 12214) 1 56 [(0, .ref x0)] [.ref (w81.2.2.2.2.1.length), .ref x0] m107
  refine v_putR (pc := 56) C117 26 rfl lf_ScopeGraph_32 hs111 rfl ?_
  refine v_topM (fun m119 em119 => ?_)
  replace h := g_nm h em119
  have wf120 : gWf w108.2.2.2.2.1 m119 := by rw [em119]; exact wf110.r (by omega)
  refine v_aload_n (pc := 59) C117 27 0 rfl rfl rfl ?_
  obtain ⟨k124, h⟩ := g_okk h
  have kk124 := g_kB k124
  refine v_new (pc := 60) C117 28 rfl clX1 ⟨g_tb 236 (by decide +kernel) rfl, g_tb 237 (by decide +kernel) rfl, g_tb 81 (by decide +kernel) rfl⟩ (by decide) wf120 (gLv_ref (by omega) gLv_nil) (gLs_ref (by omega) gLs_nil) kk124 (hx118.n0 hA) ⟨by rw [hR]; decide, by rw [hR]; decide⟩ (fun w123 xw123 sw123 => ?_)
  replace h := g_nm (y := w123.2.2.2.2.1) h sw123
  refine v_topM (fun m122 em122 => ?_)
  replace h := g_nm h em122
  have wf125 : gWf w123.2.2.2.2.1 m122 := by rw [sw123, em122]; exact wf120.z _
  have lnw123 := g_ln sw123
  have hs126 := xw123.at hs111
  have hs127 := xw123.at hs112
  have hs128 := xw123.at hs113
  have hs129 := xw123.at hs114
  have hs130 := xw123.at hs115
  have hs131 := xw123.at hs116
  have C132 := C117.ext xw123
  have hx133 := hx118.trans xw123
  have hs134 := g_atn sw123
  change gV X w123 50 11122 (gRN X w rs rm 61 12214) 1 63 [(0, .ref x0)] [.ref (w108.2.2.2.2.1.length), .ref x0] m122
  refine v_dup (pc := 63) C132 29 rfl rfl ?_
  obtain ⟨⟨sw137, m136⟩, qw137, h⟩ := g_bd h
  replace h := g_nm (y := m136) (g_nm (y := sw137) h rfl) rfl
  refine v_callI (pc := 64) (st := [.ref (w108.2.2.2.2.1.length), .ref x0]) (av := []) C132 30 rfl mf_X1_init rfl (g_tb 239 (by decide +kernel) rfl) lm_ScopeGraph_31 (c_X1_init C132.2.2.2.2.2.2.2.2.2.2.2 wf125 qw137) (by decide) rfl (gLv_ref (by omega) gLv_nil) (gLs_ref (by omega) (gLs_ref (by omega) gLs_nil)) (Nat.le_of_ble_eq_true rfl) ⟨by rw [hR]; decide, by rw [hR]; decide⟩ rfl (fun w137 xw137 zw137 yw137 => ?_)
  subst zw137
  have wf139 := yw137
  have lnw137 := xw137.le
  have hs140 := xw137.at hs126
  have hs141 := xw137.at hs127
  have hs142 := xw137.at hs128
  have hs143 := xw137.at hs129
  have hs144 := xw137.at hs130
  have hs145 := xw137.at hs131
  have hs146 := xw137.at hs134
  have C147 := C132.ext xw137
  have hx148 := hx133.trans xw137
  change gV X w137 54 11522 (gRN X w rs rm 61 12214) 1 67 [(0, .ref x0)] [.ref (w108.2.2.2.2.1.length), .ref x0] m136
  refine v_putR (pc := 67) C147 31 rfl lf_ScopeGraph_36 hs140 rfl ?_
  refine v_topM (fun m149 em149 => ?_)
  replace h := g_nm h em149
  have wf150 : gWf w137.2.2.2.2.1 m149 := by rw [em149]; exact wf139.r (by omega)
  refine v_aload_n (pc := 70) C147 32 0 rfl rfl rfl ?_
  obtain ⟨k154, h⟩ := g_okk h
  have kk154 := g_kB k154
  refine v_new (pc := 71) C147 33 rfl clX3 ⟨g_tb 262 (by decide +kernel) rfl, g_tb 263 (by decide +kernel) rfl, g_tb 82 (by decide +kernel) rfl⟩ (by decide) wf150 (gLv_ref (by omega) gLv_nil) (gLs_ref (by omega) gLs_nil) kk154 (hx148.n0 hA) ⟨by rw [hR]; decide, by rw [hR]; decide⟩ (fun w153 xw153 sw153 => ?_)
  replace h := g_nm (y := w153.2.2.2.2.1) h sw153
  refine v_topM (fun m152 em152 => ?_)
  replace h := g_nm h em152
  have wf155 : gWf w153.2.2.2.2.1 m152 := by rw [sw153, em152]; exact wf150.z _
  have lnw153 := g_ln sw153
  have hs156 := xw153.at hs140
  have hs157 := xw153.at hs141
  have hs158 := xw153.at hs142
  have hs159 := xw153.at hs143
  have hs160 := xw153.at hs144
  have hs161 := xw153.at hs145
  have hs162 := xw153.at hs146
  have C163 := C147.ext xw153
  have hx164 := hx148.trans xw153
  have hs165 := g_atn sw153
  change gV X w153 55 11532 (gRN X w rs rm 61 12214) 1 74 [(0, .ref x0)] [.ref (w137.2.2.2.2.1.length), .ref x0] m152
  refine v_dup (pc := 74) C163 34 rfl rfl ?_
  refine v_aload_n (pc := 75) C163 35 0 rfl rfl rfl ?_
  obtain ⟨t166, qt166, h⟩ := g_bd h
  have ltt166 := wf155 _ _ _ qt166
  refine v_getR (pc := 76) C163 36 rfl lf_ScopeGraph_26.get hs156 rfl qt166 ?_
  obtain ⟨⟨sw169, m168⟩, qw169, h⟩ := g_bd h
  replace h := g_nm (y := m168) (g_nm (y := sw169) h rfl) rfl
  refine v_callI (pc := 79) (st := [.ref (w137.2.2.2.2.1.length), .ref x0]) (av := [.ref t166]) C163 37 rfl mf_X3_init rfl (g_tb 265 (by decide +kernel) rfl) lm_ScopeGraph_41 (c_X3_init C163.2.2.2.2.2.2.2.2.2.2.2 wf155 qw169) (by decide) rfl (gLv_ref (by omega) gLv_nil) (gLs_ref (by omega) (gLs_ref (by omega) gLs_nil)) (Nat.le_of_ble_eq_true rfl) ⟨by rw [hR]; decide, by rw [hR]; decide⟩ rfl (fun w169 xw169 zw169 yw169 => ?_)
  subst zw169
  have wf171 := yw169
  have lnw169 := xw169.le
  have hs172 := xw169.at hs156
  have hs173 := xw169.at hs157
  have hs174 := xw169.at hs158
  have hs175 := xw169.at hs159
  have hs176 := xw169.at hs160
  have hs177 := xw169.at hs161
  have hs178 := xw169.at hs162
  have hs179 := xw169.at hs165
  have C180 := C163.ext xw169
  have hx181 := hx164.trans xw169
  change gV X w169 59 11825 (gRN X w rs rm 61 12214) 1 82 [(0, .ref x0)] [.ref (w137.2.2.2.2.1.length), .ref x0] m168
  refine v_putF (pc := 82) (j := 6) C180 hin 38 rfl clX7 (by decide) rfl rfl (g_tb 360 (by decide +kernel) rfl) hs172 rfl ?_
  refine v_topM (fun m182 em182 => ?_)
  replace h := g_nm h em182
  have wf183 : gWf w169.2.2.2.2.1 m182 := by rw [em182]; exact wf171.r (by omega)
  refine v_aload_n (pc := 85) C180 39 0 rfl rfl rfl ?_
  obtain ⟨k187, h⟩ := g_okk h
  have kk187 := g_kB k187
  refine v_new (pc := 86) C180 40 rfl clX4 ⟨g_tb 332 (by decide +kernel) rfl, g_tb 333 (by decide +kernel) rfl, g_tb 84 (by decide +kernel) rfl⟩ (by decide) wf183 (gLv_ref (by omega) gLv_nil) (gLs_ref (by omega) gLs_nil) kk187 (hx181.n0 hA) ⟨by rw [hR]; decide, by rw [hR]; decide⟩ (fun w186 xw186 sw186 => ?_)
  replace h := g_nm (y := w186.2.2.2.2.1) h sw186
  refine v_topM (fun m185 em185 => ?_)
  replace h := g_nm h em185
  have wf188 : gWf w186.2.2.2.2.1 m185 := by rw [sw186, em185]; exact wf183.z _
  have lnw186 := g_ln sw186
  have hs189 := xw186.at hs172
  have hs190 := xw186.at hs173
  have hs191 := xw186.at hs174
  have hs192 := xw186.at hs175
  have hs193 := xw186.at hs176
  have hs194 := xw186.at hs177
  have hs195 := xw186.at hs178
  have hs196 := xw186.at hs179
  have C197 := C180.ext xw186
  have hx198 := hx181.trans xw186
  have hs199 := g_atn sw186
  change gV X w186 60 11830 (gRN X w rs rm 61 12214) 1 89 [(0, .ref x0)] [.ref (w169.2.2.2.2.1.length), .ref x0] m185
  refine v_dup (pc := 89) C197 41 rfl rfl ?_
  refine v_aload_n (pc := 90) C197 42 0 rfl rfl rfl ?_
  obtain ⟨t200, qt200, h⟩ := g_bd h
  have ltt200 := wf188 _ _ _ qt200
  refine v_getR (pc := 91) C197 43 rfl lf_ScopeGraph_22.get hs189 rfl qt200 ?_
  refine v_aload_n (pc := 94) C197 44 0 rfl rfl rfl ?_
  obtain ⟨t201, qt201, h⟩ := g_bd h
  have ltt201 := wf188 _ _ _ qt201
  refine v_getR (pc := 95) C197 45 rfl lf_ScopeGraph_32.get hs189 rfl qt201 ?_
  obtain ⟨⟨sw204, m203⟩, qw204, h⟩ := g_bd h
  replace h := g_nm (y := m203) (g_nm (y := sw204) h rfl) rfl
  refine v_callI (pc := 98) (st := [.ref (w169.2.2.2.2.1.length), .ref x0]) (av := [.ref t200, .ref t201]) C197 46 rfl mf_X4_init rfl (g_tb 335 (by decide +kernel) rfl) lm_ScopeGraph_50 (c_X4_init C197.2.2.2.2.2.2.2.2.2.2.2 wf188 qw204) (by decide) rfl (gLv_ref (by omega) gLv_nil) (gLs_ref (by omega) (gLs_ref (by omega) gLs_nil)) (Nat.le_of_ble_eq_true rfl) ⟨by rw [hR]; decide, by rw [hR]; decide⟩ rfl (fun w204 xw204 zw204 yw204 => ?_)
  subst zw204
  have wf206 := yw204
  have lnw204 := xw204.le
  have hs207 := xw204.at hs189
  have hs208 := xw204.at hs190
  have hs209 := xw204.at hs191
  have hs210 := xw204.at hs192
  have hs211 := xw204.at hs193
  have hs212 := xw204.at hs194
  have hs213 := xw204.at hs195
  have hs214 := xw204.at hs196
  have hs215 := xw204.at hs199
  have C216 := C197.ext xw204
  have hx217 := hx198.trans xw204
  change gV X w204 61 12214 (gRN X w rs rm 61 12214) 1 101 [(0, .ref x0)] [.ref (w169.2.2.2.2.1.length), .ref x0] m203
  refine v_putF (pc := 101) (j := 7) C216 hin 47 rfl clX7 (by decide) rfl rfl (g_tb 361 (by decide +kernel) rfl) hs207 rfl ?_
  refine v_topM (fun m218 em218 => ?_)
  replace h := g_nm h em218
  have wf219 : gWf w204.2.2.2.2.1 m218 := by rw [em218]; exact wf206.r (by omega)
  refine v_aload_n (pc := 104) C216 48 0 rfl rfl rfl ?_
  refine v_iconst (pc := 105) C216 49 0 rfl (by decide) ?_
  refine v_putI (pc := 106) C216 50 rfl lf_ScopeGraph_57 hs207 rfl ?_
  refine v_topM (fun m220 em220 => ?_)
  replace h := g_nm h em220
  have wf221 : gWf w204.2.2.2.2.1 m220 := by rw [em220]; exact wf219.i
  obtain ⟨rfl, rfl⟩ := g_so h
  exact v_vretN hx217 wf221 (pc := 109) C216 51 rfl hr
theorem c_X7_init {l : Launch} {w : gW} {rs : List gS} {rm m : gM} (hJ : gJok w) (wf : gWf w.2.2.2.2.1 m) {F : Nat} {x0 : Nat} (h : f_X7_init w.2.2.2.2.1 F x0 m = some (rs, rm)) : gMN l 3 61 12214 yX7_init cX7_init 1 w [.ref x0] m rs rm := by
  have h0 := h
  unfold f_X7_init at h0
  exact gMN.of hJ mf_X7_init dk_X7_init (Nat.le_of_ble_eq_true rfl) rfl (g_oB (g_okk h0).1) (fun X _ C hR hr hin hA => tf_X7_init (F := F) C hR hr hin hA wf h)
