def f_J0_isLatin1_aae02 (sh : List gS) (F : Nat) (x0 : Nat) (m : gM) : Option (Int32 × gM) :=
  if (1 : Int32) = 0 then (some (0, m)) else (g_if (isS x0) (if (0 : Int32) = 0 then (some (1, m)) else (some (0, m))))
set_option maxRecDepth 100000 in
set_option maxHeartbeats 4000000 in
theorem tf_J0_isLatin1_aae02 {X : gX} {w : gW} {rr : Int32} {rm : gM} (C : gC X w K_J0_isLatin1_aae02 1 "java/lang/String" 0) (hG : gJs w) (hr : X.2.2.2.2.2.2.2.2.1.sig.returnType = (some .boolean)) {F : Nat} {x0 : Nat} {m : gM} (h : f_J0_isLatin1_aae02 w.2.2.2.2.1 F x0 m = some (rr, rm)) : gV X w 0 0 (gR X w (some (.int rr)) rm) 1 0 [(0, .ref x0)] [] m := by
  unfold f_J0_isLatin1_aae02 at h
  refine v_gets (pc := 0) C 0 (v := .int 1) rfl (hG _ C.2.2.2.2.2.2.2.2.2.2.1).2.1 (g_tb 443 (by decide +kernel) rfl) ?_
  refine v_if_eq (pc := 3) C 1 17 rfl (by decide) (fun c1 => ?_) (fun c1 => ?_)
  · replace h := g_ifT c1 h
    refine v_iconst (pc := 17) C 7 0 rfl (by decide) ?_
    obtain ⟨rfl, rfl⟩ := g_so h
    exact v_zret (pc := 18) C 8 rfl hr (by decide)
  · replace h := g_ifF c1 h
    refine v_aload_n (pc := 6) C 2 0 rfl rfl rfl ?_
    obtain ⟨o2, h⟩ := g_okk h
    refine v_strC (pc := 7) C hG 3 rfl (g_tb 1436 (by decide +kernel) rfl) o2 ?_
    refine v_if_ne (pc := 10) C 4 17 rfl (by decide) (fun c3 => ?_) (fun c3 => ?_)
    · replace h := g_ifF c3 h
      refine v_iconst (pc := 17) C 7 0 rfl (by decide) ?_
      obtain ⟨rfl, rfl⟩ := g_so h
      exact v_zret (pc := 18) C 8 rfl hr (by decide)
    · replace h := g_ifT c3 h
      refine v_iconst (pc := 13) C 5 1 rfl (by decide) ?_
      refine v_goto (pc := 14) C 6 18 rfl (by decide) ?_
      obtain ⟨rfl, rfl⟩ := g_so h
      exact v_zret (pc := 18) C 8 rfl hr (by decide)
theorem c_J0_isLatin1_aae02 {l : Launch} {w : gW} {rr : Int32} {rm : gM} (hJ : gJok w) (hG : gJs w) {F : Nat} {x0 : Nat} {m : gM} (h : f_J0_isLatin1_aae02 w.2.2.2.2.1 F x0 m = some (rr, rm)) : gMet l 0 yJ0_isLatin1_aae02 cJ0_isLatin1_aae02 1 (some .boolean) w [.ref x0] m (some (.int rr)) rm :=
  gMet.of hJ mf_J0_isLatin1_aae02 dk_J0_isLatin1_aae02 (Nat.le_of_ble_eq_true rfl) (fun X _ C hr => tf_J0_isLatin1_aae02 (F := F) C hG hr h)
def f_J0_coder_7d493 (sh : List gS) (F : Nat) (x0 : Nat) (m : gM) : Option (Int32 × gM) :=
  if (1 : Int32) = 0 then (g_if (bB 1) (some (1, m))) else (g_if (isS x0) (g_if (bB 0) (some (0, m))))
set_option maxRecDepth 100000 in
set_option maxHeartbeats 4000000 in
theorem tf_J0_coder_7d493 {X : gX} {w : gW} {rr : Int32} {rm : gM} (C : gC X w K_J0_coder_7d493 1 "java/lang/String" 0) (hG : gJs w) (hr : X.2.2.2.2.2.2.2.2.1.sig.returnType = (some .byte)) {F : Nat} {x0 : Nat} {m : gM} (h : f_J0_coder_7d493 w.2.2.2.2.1 F x0 m = some (rr, rm)) : gV X w 0 0 (gR X w (some (.int rr)) rm) 1 0 [(0, .ref x0)] [] m := by
  unfold f_J0_coder_7d493 at h
  refine v_gets (pc := 0) C 0 (v := .int 1) rfl (hG _ C.2.2.2.2.2.2.2.2.2.2.1).2.1 (g_tb 443 (by decide +kernel) rfl) ?_
  refine v_if_eq (pc := 3) C 1 13 rfl (by decide) (fun c1 => ?_) (fun c1 => ?_)
  · replace h := g_ifT c1 h
    refine v_iconst (pc := 13) C 5 1 rfl (by decide) ?_
    obtain ⟨o2, h⟩ := g_okk h
    obtain ⟨rfl, rfl⟩ := g_so h
    exact v_nret (pc := 14) C 6 rfl hr (g_naB o2)
  · replace h := g_ifF c1 h
    refine v_aload_n (pc := 6) C 2 0 rfl rfl rfl ?_
    obtain ⟨o3, h⟩ := g_okk h
    refine v_strC (pc := 7) C hG 3 rfl (g_tb 1436 (by decide +kernel) rfl) o3 ?_
    refine v_goto (pc := 10) C 4 14 rfl (by decide) ?_
    obtain ⟨o4, h⟩ := g_okk h
    obtain ⟨rfl, rfl⟩ := g_so h
    exact v_nret (pc := 14) C 6 rfl hr (g_naB o4)
theorem c_J0_coder_7d493 {l : Launch} {w : gW} {rr : Int32} {rm : gM} (hJ : gJok w) (hG : gJs w) {F : Nat} {x0 : Nat} {m : gM} (h : f_J0_coder_7d493 w.2.2.2.2.1 F x0 m = some (rr, rm)) : gMet l 0 yJ0_coder_7d493 cJ0_coder_7d493 1 (some .byte) w [.ref x0] m (some (.int rr)) rm :=
  gMet.of hJ mf_J0_coder_7d493 dk_J0_coder_7d493 (Nat.le_of_ble_eq_true rfl) (fun X _ C hr => tf_J0_coder_7d493 (F := F) C hG hr h)
def f_J0_length_8abf5 (sh : List gS) (F : Nat) (x0 : Nat) (m : gM) : Option (Int32 × gM) :=
  g_if (isS x0) (g_if (isA (x0 + 100)) ((f_J0_coder_7d493 sh F x0 m).bind (fun q5 => nm q5.1 (fun r4 => nm q5.2 (fun m3 => some ((Int32.ofNat (sL (x0 + 100))) >>> (r4 &&& 31), m3))))))
set_option maxRecDepth 100000 in
set_option maxHeartbeats 4000000 in
theorem tf_J0_length_8abf5 {X : gX} {w : gW} {rr : Int32} {rm : gM} (C : gC X w K_J0_length_8abf5 1 "java/lang/String" 1) (hG : gJs w) (hr : X.2.2.2.2.2.2.2.2.1.sig.returnType = (some .int)) {F : Nat} {x0 : Nat} {m : gM} (h : f_J0_length_8abf5 w.2.2.2.2.1 F x0 m = some (rr, rm)) : gV X w 0 0 (gR X w (some (.int rr)) rm) 1 0 [(0, .ref x0)] [] m := by
  unfold f_J0_length_8abf5 at h
  refine v_aload_n (pc := 0) C 0 0 rfl rfl rfl ?_
  obtain ⟨o1, h⟩ := g_okk h
  refine v_strV (pc := 1) C hG 1 rfl (g_tb 1437 (by decide +kernel) rfl) o1 ?_
  obtain ⟨o2, h⟩ := g_okk h
  refine v_slen (pc := 4) C hG 2 rfl o2 ?_
  refine v_aload_n (pc := 5) C 3 0 rfl rfl rfl ?_
  obtain ⟨⟨r4, m3⟩, qm3, h⟩ := g_bd h
  replace h := g_nm (y := m3) (g_nm (y := r4) h rfl) rfl
  refine v_callT (pc := 6) (st := [.int (Int32.ofNat (sL (x0 + 100)))]) C hG 4 rfl mf_J0_coder_7d493 rfl im_J0_coder_7d493 ln_java_lang_String_335 (c_J0_coder_7d493 C.2.2.2.2.2.2.2.2.2.2.2 hG qm3) (by decide) rfl o1 (Nat.le_of_ble_eq_true rfl) ⟨Nat.zero_le _, Nat.zero_le _⟩ rfl ?_
  change gV X w 0 0 (gR X w (some (.int rr)) rm) 1 9 [(0, .ref x0)] [.int r4, .int (Int32.ofNat (sL (x0 + 100)))] m3
  refine v_ishr (pc := 9) C 5 rfl ?_
  obtain ⟨rfl, rfl⟩ := g_so h
  exact v_iret (pc := 10) C 6 rfl hr
theorem c_J0_length_8abf5 {l : Launch} {w : gW} {rr : Int32} {rm : gM} (hJ : gJok w) (hG : gJs w) {F : Nat} {x0 : Nat} {m : gM} (h : f_J0_length_8abf5 w.2.2.2.2.1 F x0 m = some (rr, rm)) : gMet l 1 yJ0_length_8abf5 cJ0_length_8abf5 1 (some .int) w [.ref x0] m (some (.int rr)) rm :=
  gMet.of hJ mf_J0_length_8abf5 dk_J0_length_8abf5 (Nat.le_of_ble_eq_true rfl) (fun X _ C hr => tf_J0_length_8abf5 (F := F) C hG hr h)
def f_J1_canEncode_9a6ad (sh : List gS) (F : Nat) (x0 : Int32) (m : gM) : Option (Int32 × gM) :=
  if x0 < 0 then (some (0, m)) else (if (255 : Int32) < x0 then (some (0, m)) else (some (1, m)))
set_option maxRecDepth 100000 in
set_option maxHeartbeats 4000000 in
theorem tf_J1_canEncode_9a6ad {X : gX} {w : gW} {rr : Int32} {rm : gM} (C : gC X w K_J1_canEncode_9a6ad 1 "java/lang/StringLatin1" 0) (hr : X.2.2.2.2.2.2.2.2.1.sig.returnType = (some .boolean)) {F : Nat} {x0 : Int32} {m : gM} (h : f_J1_canEncode_9a6ad w.2.2.2.2.1 F x0 m = some (rr, rm)) : gV X w 0 0 (gR X w (some (.int rr)) rm) 1 0 [(0, .int x0)] [] m := by
  unfold f_J1_canEncode_9a6ad at h
  refine v_iload_n (pc := 0) C 0 0 rfl rfl rfl ?_
  refine v_if_lt (pc := 1) C 1 15 rfl (by decide) (fun c1 => ?_) (fun c1 => ?_)
  · replace h := g_ifT c1 h
    refine v_iconst (pc := 15) C 7 0 rfl (by decide) ?_
    obtain ⟨rfl, rfl⟩ := g_so h
    exact v_zret (pc := 16) C 8 rfl hr (by decide)
  · replace h := g_ifF c1 h
    refine v_iload_n (pc := 4) C 2 0 rfl rfl rfl ?_
    refine v_sipush (pc := 5) C 3 255 rfl (by decide) ?_
    refine v_icmp_gt (pc := 8) C 4 15 rfl (by decide) (fun c2 => ?_) (fun c2 => ?_)
    · replace h := g_ifT c2 h
      refine v_iconst (pc := 15) C 7 0 rfl (by decide) ?_
      obtain ⟨rfl, rfl⟩ := g_so h
      exact v_zret (pc := 16) C 8 rfl hr (by decide)
    · replace h := g_ifF c2 h
      refine v_iconst (pc := 11) C 5 1 rfl (by decide) ?_
      refine v_goto (pc := 12) C 6 16 rfl (by decide) ?_
      obtain ⟨rfl, rfl⟩ := g_so h
      exact v_zret (pc := 16) C 8 rfl hr (by decide)
theorem c_J1_canEncode_9a6ad {l : Launch} {w : gW} {rr : Int32} {rm : gM} (hJ : gJok w) {F : Nat} {x0 : Int32} {m : gM} (h : f_J1_canEncode_9a6ad w.2.2.2.2.1 F x0 m = some (rr, rm)) : gMet l 0 yJ1_canEncode_9a6ad cJ1_canEncode_9a6ad 1 (some .boolean) w [.int x0] m (some (.int rr)) rm :=
  gMet.of hJ mf_J1_canEncode_9a6ad dk_J1_canEncode_9a6ad (Nat.le_of_ble_eq_true rfl) (fun X _ C hr => tf_J1_canEncode_9a6ad (F := F) C hr h)
def b_J1_indexOfChar_4cfef_7 (sh : List gS) (F : Nat) (k7 : Nat → Int32 → Int32 → Int32 → gM → Option (Int32 × gM)) (x0 : Nat) (x3 : Int32) (x4 : Int32) (x5 : Int32) (m : gM) : Option (Int32 × gM) :=
  if x3 ≤ x5 then (some ((-1), m)) else (g_if (isA x0) (g_if (inB x5 (sL x0)) (if (sB x0 (x5).toNatClampNeg) = x4 then (some (x5, m)) else (nm (x5 + Int32.ofInt 1) (fun v5 => k7 x0 x3 x4 v5 m)))))
set_option maxRecDepth 100000 in
set_option maxHeartbeats 4000000 in
theorem tb_J1_indexOfChar_4cfef_7 {X : gX} {w : gW} {rr : Int32} {rm : gM} (C : gC X w K_J1_indexOfChar_4cfef 6 "java/lang/StringLatin1" 0) (hG : gJs w) (hr : X.2.2.2.2.2.2.2.2.1.sig.returnType = (some .int)) {F : Nat} {k7 : Nat → Int32 → Int32 → Int32 → gM → Option (Int32 × gM)} (hk7 : ∀ (z0 : Nat) (z3 : Int32) (z4 : Int32) (z5 : Int32) (m : gM), k7 z0 z3 z4 z5 m = some (rr, rm) → gV X w 0 0 (gR X w (some (.int rr)) rm) 6 7 [(0, .ref z0), (3, .int z3), (4, .int z4), (5, .int z5)] [] m) {x0 : Nat} {x3 : Int32} {x4 : Int32} {x5 : Int32} {m : gM} (h : b_J1_indexOfChar_4cfef_7 w.2.2.2.2.1 F k7 x0 x3 x4 x5 m = some (rr, rm)) : gV X w 0 0 (gR X w (some (.int rr)) rm) 6 7 [(0, .ref x0), (3, .int x3), (4, .int x4), (5, .int x5)] [] m := by
  unfold b_J1_indexOfChar_4cfef_7 at h
  refine v_iload (pc := 7) C 5 3 rfl rfl ?_
  refine v_iload_n (pc := 9) C 6 1 rfl rfl rfl ?_
  refine v_icmp_ge (pc := 10) C 7 31 rfl (by decide) (fun c1 => ?_) (fun c1 => ?_)
  · replace h := g_ifT c1 h
    refine v_iconst (pc := 31) C 17 (-1) rfl (by decide) ?_
    obtain ⟨rfl, rfl⟩ := g_so h
    exact v_iret (pc := 32) C 18 rfl hr
  · replace h := g_ifF c1 h
    refine v_aload_n (pc := 13) C 8 0 rfl rfl rfl ?_
    refine v_iload (pc := 14) C 9 3 rfl rfl ?_
    obtain ⟨o2, h⟩ := g_okk h
    obtain ⟨b3, h⟩ := g_okk h
    refine v_sbald (pc := 16) C hG 10 rfl o2 b3 ?_
    refine v_iload (pc := 17) C 11 2 rfl rfl ?_
    refine v_icmp_ne (pc := 19) C 12 25 rfl (by decide) (fun c4 => ?_) (fun c4 => ?_)
    · replace h := g_ifF c4 h
      refine v_iincN (pc := 25) C 15 3 (fun v5 => [(5, .int v5), (0, .ref x0), (3, .int x3), (4, .int x4)]) rfl rfl (by decide) (fun _ => rfl) (fun v5 ev5 => ?_)
      replace h := g_nm h ev5
      refine v_goto (pc := 28) C 16 7 rfl (by decide) ?_
      refine v_sub [(0, .ref x0), (3, .int x3), (4, .int x4), (5, .int v5)] [1, 2, 3, 0] rfl ?_
      exact hk7 _ _ _ _ _ h
    · replace h := g_ifT c4 h
      refine v_iload (pc := 22) C 13 3 rfl rfl ?_
      obtain ⟨rfl, rfl⟩ := g_so h
      exact v_iret (pc := 24) C 14 rfl hr
def l_J1_indexOfChar_4cfef_7 (sh : List gS) (F : Nat) : Nat → Nat → Int32 → Int32 → Int32 → gM → Option (Int32 × gM)
  | 0 => fun _ _ _ _ _ => none
  | n + 1 => fun x0 x3 x4 x5 m => b_J1_indexOfChar_4cfef_7 sh F (l_J1_indexOfChar_4cfef_7 sh F n) x0 x3 x4 x5 m
theorem tl_J1_indexOfChar_4cfef_7 {X : gX} {w : gW} {rr : Int32} {rm : gM} (C : gC X w K_J1_indexOfChar_4cfef 6 "java/lang/StringLatin1" 0) (hG : gJs w) (hr : X.2.2.2.2.2.2.2.2.1.sig.returnType = (some .int)) {F : Nat} : ∀ (n : Nat) (x0 : Nat) (x3 : Int32) (x4 : Int32) (x5 : Int32) (m : gM), l_J1_indexOfChar_4cfef_7 w.2.2.2.2.1 F n x0 x3 x4 x5 m = some (rr, rm) → gV X w 0 0 (gR X w (some (.int rr)) rm) 6 7 [(0, .ref x0), (3, .int x3), (4, .int x4), (5, .int x5)] [] m := by
  intro n
  induction n with
  | zero => intro x0 x3 x4 x5 m h; cases h
  | succ n ih => intro x0 x3 x4 x5 m h; exact tb_J1_indexOfChar_4cfef_7 (F := F) C hG hr ih h
def f_J1_indexOfChar_4cfef (sh : List gS) (F : Nat) (x0 : Nat) (x1 : Int32) (x2 : Int32) (x3 : Int32) (m : gM) : Option (Int32 × gM) :=
  nm (x1.toInt8.toInt32) (fun v1 => l_J1_indexOfChar_4cfef_7 sh F F x0 x3 v1 x2 m)
set_option maxRecDepth 100000 in
set_option maxHeartbeats 4000000 in
theorem tf_J1_indexOfChar_4cfef {X : gX} {w : gW} {rr : Int32} {rm : gM} (C : gC X w K_J1_indexOfChar_4cfef 6 "java/lang/StringLatin1" 0) (hG : gJs w) (hr : X.2.2.2.2.2.2.2.2.1.sig.returnType = (some .int)) {F : Nat} {x0 : Nat} {x1 : Int32} {x2 : Int32} {x3 : Int32} {m : gM} (h : f_J1_indexOfChar_4cfef w.2.2.2.2.1 F x0 x1 x2 x3 m = some (rr, rm)) : gV X w 0 0 (gR X w (some (.int rr)) rm) 6 0 [(0, .ref x0), (1, .int x1), (2, .int x2), (3, .int x3)] [] m := by
  unfold f_J1_indexOfChar_4cfef at h
  refine v_iload_n (pc := 0) C 0 1 rfl rfl rfl ?_
  refine v_i2b (pc := 1) C 1 rfl ?_
  refine v_topI (fun v1 ev1 => ?_)
  replace h := g_nm h ev1
  refine v_istore (pc := 2) (lv' := [(4, .int v1), (0, .ref x0), (1, .int x1), (2, .int x2), (3, .int x3)]) C 2 rfl (by decide) rfl ?_
  refine v_iload_n (pc := 4) C 3 3 rfl rfl rfl ?_
  refine v_istore (pc := 5) (lv' := [(5, .int x2), (4, .int v1), (0, .ref x0), (1, .int x1), (2, .int x2), (3, .int x3)]) C 4 rfl (by decide) rfl ?_
  refine v_sub [(0, .ref x0), (3, .int x3), (4, .int v1), (5, .int x2)] [2, 5, 1, 0] rfl ?_
  exact tl_J1_indexOfChar_4cfef_7 (F := F) C hG hr _ _ _ _ _ _ h
theorem c_J1_indexOfChar_4cfef {l : Launch} {w : gW} {rr : Int32} {rm : gM} (hJ : gJok w) (hG : gJs w) {F : Nat} {x0 : Nat} {x1 : Int32} {x2 : Int32} {x3 : Int32} {m : gM} (h : f_J1_indexOfChar_4cfef w.2.2.2.2.1 F x0 x1 x2 x3 m = some (rr, rm)) : gMet l 0 yJ1_indexOfChar_4cfef cJ1_indexOfChar_4cfef 6 (some .int) w [.ref x0, .int x1, .int x2, .int x3] m (some (.int rr)) rm :=
  gMet.of hJ mf_J1_indexOfChar_4cfef dk_J1_indexOfChar_4cfef (Nat.le_of_ble_eq_true rfl) (fun X _ C hr => tf_J1_indexOfChar_4cfef (F := F) C hG hr h)
def f_J1_indexOf_4cfef (sh : List gS) (F : Nat) (x0 : Nat) (x1 : Int32) (x2 : Int32) (x3 : Int32) (m : gM) : Option (Int32 × gM) :=
  (f_J1_canEncode_9a6ad sh F x1 m).bind (fun q3 => nm q3.1 (fun r2 => nm q3.2 (fun m1 => if r2 = 0 then (some ((-1), m1)) else (nm (if x2 < (0 : Int32) then (0 : Int32) else x2) (fun v5 => g_if (isA x0) (nm (if (Int32.ofNat (sL x0)) < x3 then (Int32.ofNat (sL x0)) else x3) (fun v7 => if v5 < v7 then ((f_J1_indexOfChar_4cfef sh F x0 x1 v5 v7 m1).bind (fun q11 => nm q11.1 (fun r10 => nm q11.2 (fun m9 => some (r10, m9))))) else (some ((-1), m1)))))))))
set_option maxRecDepth 100000 in
set_option maxHeartbeats 4000000 in
theorem tf_J1_indexOf_4cfef {X : gX} {w : gW} {rr : Int32} {rm : gM} (C : gC X w K_J1_indexOf_4cfef 4 "java/lang/StringLatin1" 1) (hG : gJs w) (hr : X.2.2.2.2.2.2.2.2.1.sig.returnType = (some .int)) {F : Nat} {x0 : Nat} {x1 : Int32} {x2 : Int32} {x3 : Int32} {m : gM} (h : f_J1_indexOf_4cfef w.2.2.2.2.1 F x0 x1 x2 x3 m = some (rr, rm)) : gV X w 0 0 (gR X w (some (.int rr)) rm) 4 0 [(0, .ref x0), (1, .int x1), (2, .int x2), (3, .int x3)] [] m := by
  unfold f_J1_indexOf_4cfef at h
  refine v_iload_n (pc := 0) C 0 1 rfl rfl rfl ?_
  obtain ⟨⟨r2, m1⟩, qm1, h⟩ := g_bd h
  replace h := g_nm (y := m1) (g_nm (y := r2) h rfl) rfl
  refine v_callS (pc := 1) C 1 rfl mf_J1_canEncode_9a6ad sm_J1_canEncode_9a6ad ln_java_lang_StringLatin1_88 (c_J1_canEncode_9a6ad C.2.2.2.2.2.2.2.2.2.2.2 qm1) (by decide) rfl (Nat.le_of_ble_eq_true rfl) ⟨Nat.zero_le _, Nat.zero_le _⟩ rfl ?_
  change gV X w 0 0 (gR X w (some (.int rr)) rm) 4 4 [(0, .ref x0), (1, .int x1), (2, .int x2), (3, .int x3)] [.int r2] m1
  refine v_if_ne (pc := 4) C 2 9 rfl (by decide) (fun c4 => ?_) (fun c4 => ?_)
  · replace h := g_ifF c4 h
    refine v_iload_n (pc := 9) C 5 2 rfl rfl rfl ?_
    refine v_iconst (pc := 10) C 6 0 rfl (by decide) ?_
    refine v_mmax (pc := 11) C 7 rfl (g_tb 506 (by decide +kernel) rfl) (by decide) (Nat.le_of_ble_eq_true rfl) ⟨Nat.zero_le _, Nat.zero_le _⟩ ?_
    refine v_topI (fun v5 ev5 => ?_)
    replace h := g_nm h ev5
    refine v_istore_n (pc := 14) (lv' := [(2, .int v5), (0, .ref x0), (1, .int x1), (3, .int x3)]) C 8 rfl rfl (by decide) rfl ?_
    refine v_iload_n (pc := 15) C 9 3 rfl rfl rfl ?_
    refine v_aload_n (pc := 16) C 10 1 rfl rfl rfl ?_
    obtain ⟨o6, h⟩ := g_okk h
    refine v_slen (pc := 17) C hG 11 rfl o6 ?_
    refine v_mmin (pc := 18) C 12 rfl (g_tb 509 (by decide +kernel) rfl) (by decide) (Nat.le_of_ble_eq_true rfl) ⟨Nat.zero_le _, Nat.zero_le _⟩ ?_
    refine v_topI (fun v7 ev7 => ?_)
    replace h := g_nm h ev7
    refine v_istore_n (pc := 21) (lv' := [(3, .int v7), (2, .int v5), (0, .ref x0), (1, .int x1)]) C 13 rfl rfl (by decide) rfl ?_
    refine v_iload_n (pc := 22) C 14 1 rfl rfl rfl ?_
    refine v_iload_n (pc := 23) C 15 0 rfl rfl rfl ?_
    refine v_icmp_lt (pc := 24) C 16 29 rfl (by decide) (fun c8 => ?_) (fun c8 => ?_)
    · replace h := g_ifT c8 h
      refine v_aload_n (pc := 29) C 19 2 rfl rfl rfl ?_
      refine v_iload_n (pc := 30) C 20 3 rfl rfl rfl ?_
      refine v_iload_n (pc := 31) C 21 1 rfl rfl rfl ?_
      refine v_iload_n (pc := 32) C 22 0 rfl rfl rfl ?_
      obtain ⟨⟨r10, m9⟩, qm9, h⟩ := g_bd h
      replace h := g_nm (y := m9) (g_nm (y := r10) h rfl) rfl
      refine v_callS (pc := 33) C 23 rfl mf_J1_indexOfChar_4cfef sm_J1_indexOfChar_4cfef ln_java_lang_StringLatin1_95 (c_J1_indexOfChar_4cfef C.2.2.2.2.2.2.2.2.2.2.2 hG qm9) (by decide) rfl (Nat.le_of_ble_eq_true rfl) ⟨Nat.zero_le _, Nat.zero_le _⟩ rfl ?_
      change gV X w 0 0 (gR X w (some (.int rr)) rm) 4 36 [(3, .int v7), (2, .int v5), (0, .ref x0), (1, .int x1)] [.int r10] m9
      obtain ⟨rfl, rfl⟩ := g_so h
      exact v_iret (pc := 36) C 24 rfl hr
    · replace h := g_ifF c8 h
      refine v_iconst (pc := 27) C 17 (-1) rfl (by decide) ?_
      obtain ⟨rfl, rfl⟩ := g_so h
      exact v_iret (pc := 28) C 18 rfl hr
  · replace h := g_ifT c4 h
    refine v_iconst (pc := 7) C 3 (-1) rfl (by decide) ?_
    obtain ⟨rfl, rfl⟩ := g_so h
    exact v_iret (pc := 8) C 4 rfl hr
theorem c_J1_indexOf_4cfef {l : Launch} {w : gW} {rr : Int32} {rm : gM} (hJ : gJok w) (hG : gJs w) {F : Nat} {x0 : Nat} {x1 : Int32} {x2 : Int32} {x3 : Int32} {m : gM} (h : f_J1_indexOf_4cfef w.2.2.2.2.1 F x0 x1 x2 x3 m = some (rr, rm)) : gMet l 1 yJ1_indexOf_4cfef cJ1_indexOf_4cfef 4 (some .int) w [.ref x0, .int x1, .int x2, .int x3] m (some (.int rr)) rm :=
  gMet.of hJ mf_J1_indexOf_4cfef dk_J1_indexOf_4cfef (Nat.le_of_ble_eq_true rfl) (fun X _ C hr => tf_J1_indexOf_4cfef (F := F) C hG hr h)
def f_J0_indexOf_7cf53 (sh : List gS) (F : Nat) (x0 : Nat) (x1 : Int32) (x2 : Int32) (m : gM) : Option (Int32 × gM) :=
  g_if (isS x0) ((f_J0_isLatin1_aae02 sh F x0 m).bind (fun q4 => nm q4.1 (fun r3 => nm q4.2 (fun m2 => if r3 = 0 then ((f_J0_length_8abf5 sh F x0 m2).bind (fun q8 => nm q8.1 (fun r7 => nm q8.2 (fun m6 => none)))) else ((f_J0_length_8abf5 sh F x0 m2).bind (fun q11 => nm q11.1 (fun r10 => nm q11.2 (fun m9 => (f_J1_indexOf_4cfef sh F (x0 + 100) x1 x2 r10 m9).bind (fun q14 => nm q14.1 (fun r13 => nm q14.2 (fun m12 => some (r13, m12))))))))))))
set_option maxRecDepth 100000 in
set_option maxHeartbeats 4000000 in
theorem tf_J0_indexOf_7cf53 {X : gX} {w : gW} {rr : Int32} {rm : gM} (C : gC X w K_J0_indexOf_7cf53 3 "java/lang/String" 2) (hG : gJs w) (hr : X.2.2.2.2.2.2.2.2.1.sig.returnType = (some .int)) {F : Nat} {x0 : Nat} {x1 : Int32} {x2 : Int32} {m : gM} (h : f_J0_indexOf_7cf53 w.2.2.2.2.1 F x0 x1 x2 m = some (rr, rm)) : gV X w 0 0 (gR X w (some (.int rr)) rm) 3 0 [(0, .ref x0), (1, .int x1), (2, .int x2)] [] m := by
  unfold f_J0_indexOf_7cf53 at h
  refine v_aload_n (pc := 0) C 0 0 rfl rfl rfl ?_
  obtain ⟨o1, h⟩ := g_okk h
  obtain ⟨⟨r3, m2⟩, qm2, h⟩ := g_bd h
  replace h := g_nm (y := m2) (g_nm (y := r3) h rfl) rfl
  refine v_callT (pc := 1) (st := []) C hG 1 rfl mf_J0_isLatin1_aae02 rfl im_J0_isLatin1_aae02 ln_java_lang_String_492 (c_J0_isLatin1_aae02 C.2.2.2.2.2.2.2.2.2.2.2 hG qm2) (by decide) rfl o1 (Nat.le_of_ble_eq_true rfl) ⟨Nat.zero_le _, Nat.zero_le _⟩ rfl ?_
  change gV X w 0 0 (gR X w (some (.int rr)) rm) 3 4 [(0, .ref x0), (1, .int x1), (2, .int x2)] [.int r3] m2
  refine v_if_eq (pc := 4) C 2 23 rfl (by decide) (fun c5 => ?_) (fun c5 => ?_)
  · replace h := g_ifT c5 h
    refine v_aload_n (pc := 23) C 11 0 rfl rfl rfl ?_
    refine v_strV (pc := 24) C hG 12 rfl (g_tb 1437 (by decide +kernel) rfl) o1 ?_
    refine v_iload_n (pc := 27) C 13 1 rfl rfl rfl ?_
    refine v_iload_n (pc := 28) C 14 2 rfl rfl rfl ?_
    refine v_aload_n (pc := 29) C 15 0 rfl rfl rfl ?_
    obtain ⟨⟨r7, m6⟩, qm6, h⟩ := g_bd h
    replace h := g_nm (y := m6) (g_nm (y := r7) h rfl) rfl
    refine v_callT (pc := 30) (st := [.int x2, .int x1, .ref (x0 + 100)]) C hG 16 rfl mf_J0_length_8abf5 rfl im_J0_length_8abf5 ln_java_lang_String_505 (c_J0_length_8abf5 C.2.2.2.2.2.2.2.2.2.2.2 hG qm6) (by decide) rfl o1 (Nat.le_of_ble_eq_true rfl) ⟨Nat.zero_le _, Nat.zero_le _⟩ rfl ?_
    change gV X w 0 0 (gR X w (some (.int rr)) rm) 3 33 [(0, .ref x0), (1, .int x1), (2, .int x2)] [.int r7, .int x2, .int x1, .ref (x0 + 100)] m6
    cases h
  · replace h := g_ifF c5 h
    refine v_aload_n (pc := 7) C 3 0 rfl rfl rfl ?_
    refine v_strV (pc := 8) C hG 4 rfl (g_tb 1437 (by decide +kernel) rfl) o1 ?_
    refine v_iload_n (pc := 11) C 5 1 rfl rfl rfl ?_
    refine v_iload_n (pc := 12) C 6 2 rfl rfl rfl ?_
    refine v_aload_n (pc := 13) C 7 0 rfl rfl rfl ?_
    obtain ⟨⟨r10, m9⟩, qm9, h⟩ := g_bd h
    replace h := g_nm (y := m9) (g_nm (y := r10) h rfl) rfl
    refine v_callT (pc := 14) (st := [.int x2, .int x1, .ref (x0 + 100)]) C hG 8 rfl mf_J0_length_8abf5 rfl im_J0_length_8abf5 ln_java_lang_String_505 (c_J0_length_8abf5 C.2.2.2.2.2.2.2.2.2.2.2 hG qm9) (by decide) rfl o1 (Nat.le_of_ble_eq_true rfl) ⟨Nat.zero_le _, Nat.zero_le _⟩ rfl ?_
    change gV X w 0 0 (gR X w (some (.int rr)) rm) 3 17 [(0, .ref x0), (1, .int x1), (2, .int x2)] [.int r10, .int x2, .int x1, .ref (x0 + 100)] m9
    obtain ⟨⟨r13, m12⟩, qm12, h⟩ := g_bd h
    replace h := g_nm (y := m12) (g_nm (y := r13) h rfl) rfl
    refine v_callS (pc := 17) C 9 rfl mf_J1_indexOf_4cfef sm_J1_indexOf_4cfef ln_java_lang_String_637 (c_J1_indexOf_4cfef C.2.2.2.2.2.2.2.2.2.2.2 hG qm12) (by decide) rfl (Nat.le_of_ble_eq_true rfl) ⟨Nat.zero_le _, Nat.zero_le _⟩ rfl ?_
    change gV X w 0 0 (gR X w (some (.int rr)) rm) 3 20 [(0, .ref x0), (1, .int x1), (2, .int x2)] [.int r13] m12
    refine v_goto (pc := 20) C 10 36 rfl (by decide) ?_
    obtain ⟨rfl, rfl⟩ := g_so h
    exact v_iret (pc := 36) C 18 rfl hr
theorem c_J0_indexOf_7cf53 {l : Launch} {w : gW} {rr : Int32} {rm : gM} (hJ : gJok w) (hG : gJs w) {F : Nat} {x0 : Nat} {x1 : Int32} {x2 : Int32} {m : gM} (h : f_J0_indexOf_7cf53 w.2.2.2.2.1 F x0 x1 x2 m = some (rr, rm)) : gMet l 2 yJ0_indexOf_7cf53 cJ0_indexOf_7cf53 3 (some .int) w [.ref x0, .int x1, .int x2] m (some (.int rr)) rm :=
  gMet.of hJ mf_J0_indexOf_7cf53 dk_J0_indexOf_7cf53 (Nat.le_of_ble_eq_true rfl) (fun X _ C hr => tf_J0_indexOf_7cf53 (F := F) C hG hr h)
def f_J0_indexOf_0f7a4 (sh : List gS) (F : Nat) (x0 : Nat) (x1 : Int32) (m : gM) : Option (Int32 × gM) :=
  g_if (isS x0) ((f_J0_indexOf_7cf53 sh F x0 x1 0 m).bind (fun q4 => nm q4.1 (fun r3 => nm q4.2 (fun m2 => some (r3, m2)))))
set_option maxRecDepth 100000 in
set_option maxHeartbeats 4000000 in
theorem tf_J0_indexOf_0f7a4 {X : gX} {w : gW} {rr : Int32} {rm : gM} (C : gC X w K_J0_indexOf_0f7a4 2 "java/lang/String" 3) (hG : gJs w) (hr : X.2.2.2.2.2.2.2.2.1.sig.returnType = (some .int)) {F : Nat} {x0 : Nat} {x1 : Int32} {m : gM} (h : f_J0_indexOf_0f7a4 w.2.2.2.2.1 F x0 x1 m = some (rr, rm)) : gV X w 0 0 (gR X w (some (.int rr)) rm) 2 0 [(0, .ref x0), (1, .int x1)] [] m := by
  unfold f_J0_indexOf_0f7a4 at h
  refine v_aload_n (pc := 0) C 0 0 rfl rfl rfl ?_
  refine v_iload_n (pc := 1) C 1 1 rfl rfl rfl ?_
  refine v_iconst (pc := 2) C 2 0 rfl (by decide) ?_
  obtain ⟨o1, h⟩ := g_okk h
  obtain ⟨⟨r3, m2⟩, qm2, h⟩ := g_bd h
  replace h := g_nm (y := m2) (g_nm (y := r3) h rfl) rfl
  refine v_callT (pc := 3) (st := []) C hG 3 rfl mf_J0_indexOf_7cf53 rfl im_J0_indexOf_7cf53 ln_java_lang_String_633 (c_J0_indexOf_7cf53 C.2.2.2.2.2.2.2.2.2.2.2 hG qm2) (by decide) rfl o1 (Nat.le_of_ble_eq_true rfl) ⟨Nat.zero_le _, Nat.zero_le _⟩ rfl ?_
  change gV X w 0 0 (gR X w (some (.int rr)) rm) 2 6 [(0, .ref x0), (1, .int x1)] [.int r3] m2
  obtain ⟨rfl, rfl⟩ := g_so h
  exact v_iret (pc := 6) C 4 rfl hr
theorem c_J0_indexOf_0f7a4 {l : Launch} {w : gW} {rr : Int32} {rm : gM} (hJ : gJok w) (hG : gJs w) {F : Nat} {x0 : Nat} {x1 : Int32} {m : gM} (h : f_J0_indexOf_0f7a4 w.2.2.2.2.1 F x0 x1 m = some (rr, rm)) : gMet l 3 yJ0_indexOf_0f7a4 cJ0_indexOf_0f7a4 2 (some .int) w [.ref x0, .int x1] m (some (.int rr)) rm :=
  gMet.of hJ mf_J0_indexOf_0f7a4 dk_J0_indexOf_0f7a4 (Nat.le_of_ble_eq_true rfl) (fun X _ C hr => tf_J0_indexOf_0f7a4 (F := F) C hG hr h)
def f_J1_charAt_3b067 (sh : List gS) (F : Nat) (x0 : Nat) (x1 : Int32) (m : gM) : Option (Int32 × gM) :=
  g_if (isA x0) ((f_J0_checkIndex_df160 sh F x1 (Int32.ofNat (sL x0)) m).bind (fun m2 => g_if (inB x1 (sL x0)) (g_if (cB ((((sB x0 (x1).toNatClampNeg) &&& (255 : Int32)).toUInt32 % 65536).toInt32)) (some ((((sB x0 (x1).toNatClampNeg) &&& (255 : Int32)).toUInt32 % 65536).toInt32, m2)))))
set_option maxRecDepth 100000 in
set_option maxHeartbeats 4000000 in
theorem tf_J1_charAt_3b067 {X : gX} {w : gW} {rr : Int32} {rm : gM} (C : gC X w K_J1_charAt_3b067 2 "java/lang/StringLatin1" 2) (hG : gJs w) (hr : X.2.2.2.2.2.2.2.2.1.sig.returnType = (some .char)) {F : Nat} {x0 : Nat} {x1 : Int32} {m : gM} (h : f_J1_charAt_3b067 w.2.2.2.2.1 F x0 x1 m = some (rr, rm)) : gV X w 0 0 (gR X w (some (.int rr)) rm) 2 0 [(0, .ref x0), (1, .int x1)] [] m := by
  unfold f_J1_charAt_3b067 at h
  refine v_iload_n (pc := 0) C 0 1 rfl rfl rfl ?_
  refine v_aload_n (pc := 1) C 1 0 rfl rfl rfl ?_
  obtain ⟨o1, h⟩ := g_okk h
  refine v_slen (pc := 2) C hG 2 rfl o1 ?_
  obtain ⟨m2, qm2, h⟩ := g_bd h
  refine v_callS (pc := 3) C 3 rfl mf_J0_checkIndex_df160 sm_J0_checkIndex_df160 ln_java_lang_StringLatin1_9 (c_J0_checkIndex_df160 C.2.2.2.2.2.2.2.2.2.2.2 hG qm2) (by decide) rfl (Nat.le_of_ble_eq_true rfl) ⟨Nat.zero_le _, Nat.zero_le _⟩ rfl ?_
  change gV X w 0 0 (gR X w (some (.int rr)) rm) 2 6 [(0, .ref x0), (1, .int x1)] [] m2
  refine v_aload_n (pc := 6) C 4 0 rfl rfl rfl ?_
  refine v_iload_n (pc := 7) C 5 1 rfl rfl rfl ?_
  obtain ⟨b4, h⟩ := g_okk h
  refine v_sbald (pc := 8) C hG 6 rfl o1 b4 ?_
  refine v_sipush (pc := 9) C 7 255 rfl (by decide) ?_
  refine v_iand (pc := 12) C 8 rfl ?_
  refine v_i2c (pc := 13) C 9 rfl ?_
  obtain ⟨o5, h⟩ := g_okk h
  obtain ⟨rfl, rfl⟩ := g_so h
  exact v_nret (pc := 14) C 10 rfl hr (g_naC o5)
theorem c_J1_charAt_3b067 {l : Launch} {w : gW} {rr : Int32} {rm : gM} (hJ : gJok w) (hG : gJs w) {F : Nat} {x0 : Nat} {x1 : Int32} {m : gM} (h : f_J1_charAt_3b067 w.2.2.2.2.1 F x0 x1 m = some (rr, rm)) : gMet l 2 yJ1_charAt_3b067 cJ1_charAt_3b067 2 (some .char) w [.ref x0, .int x1] m (some (.int rr)) rm :=
  gMet.of hJ mf_J1_charAt_3b067 dk_J1_charAt_3b067 (Nat.le_of_ble_eq_true rfl) (fun X _ C hr => tf_J1_charAt_3b067 (F := F) C hG hr h)
def f_J0_charAt_5068e (sh : List gS) (F : Nat) (x0 : Nat) (x1 : Int32) (m : gM) : Option (Int32 × gM) :=
  g_if (isS x0) ((f_J0_isLatin1_aae02 sh F x0 m).bind (fun q4 => nm q4.1 (fun r3 => nm q4.2 (fun m2 => if r3 = 0 then (none) else ((f_J1_charAt_3b067 sh F (x0 + 100) x1 m2).bind (fun q8 => nm q8.1 (fun r7 => nm q8.2 (fun m6 => g_if (cB r7) (some (r7, m6))))))))))
set_option maxRecDepth 100000 in
set_option maxHeartbeats 4000000 in
theorem tf_J0_charAt_5068e {X : gX} {w : gW} {rr : Int32} {rm : gM} (C : gC X w K_J0_charAt_5068e 2 "java/lang/String" 3) (hG : gJs w) (hr : X.2.2.2.2.2.2.2.2.1.sig.returnType = (some .char)) {F : Nat} {x0 : Nat} {x1 : Int32} {m : gM} (h : f_J0_charAt_5068e w.2.2.2.2.1 F x0 x1 m = some (rr, rm)) : gV X w 0 0 (gR X w (some (.int rr)) rm) 2 0 [(0, .ref x0), (1, .int x1)] [] m := by
  unfold f_J0_charAt_5068e at h
  refine v_aload_n (pc := 0) C 0 0 rfl rfl rfl ?_
  obtain ⟨o1, h⟩ := g_okk h
  obtain ⟨⟨r3, m2⟩, qm2, h⟩ := g_bd h
  replace h := g_nm (y := m2) (g_nm (y := r3) h rfl) rfl
  refine v_callT (pc := 1) (st := []) C hG 1 rfl mf_J0_isLatin1_aae02 rfl im_J0_isLatin1_aae02 ln_java_lang_String_492 (c_J0_isLatin1_aae02 C.2.2.2.2.2.2.2.2.2.2.2 hG qm2) (by decide) rfl o1 (Nat.le_of_ble_eq_true rfl) ⟨Nat.zero_le _, Nat.zero_le _⟩ rfl ?_
  change gV X w 0 0 (gR X w (some (.int rr)) rm) 2 4 [(0, .ref x0), (1, .int x1)] [.int r3] m2
  refine v_if_eq (pc := 4) C 2 16 rfl (by decide) (fun c5 => ?_) (fun c5 => ?_)
  · replace h := g_ifT c5 h
    refine v_aload_n (pc := 16) C 8 0 rfl rfl rfl ?_
    refine v_strV (pc := 17) C hG 9 rfl (g_tb 1437 (by decide +kernel) rfl) o1 ?_
    refine v_iload_n (pc := 20) C 10 1 rfl rfl rfl ?_
    cases h
  · replace h := g_ifF c5 h
    refine v_aload_n (pc := 7) C 3 0 rfl rfl rfl ?_
    refine v_strV (pc := 8) C hG 4 rfl (g_tb 1437 (by decide +kernel) rfl) o1 ?_
    refine v_iload_n (pc := 11) C 5 1 rfl rfl rfl ?_
    obtain ⟨⟨r7, m6⟩, qm6, h⟩ := g_bd h
    replace h := g_nm (y := m6) (g_nm (y := r7) h rfl) rfl
    refine v_callS (pc := 12) C 6 rfl mf_J1_charAt_3b067 sm_J1_charAt_3b067 ln_java_lang_String_495 (c_J1_charAt_3b067 C.2.2.2.2.2.2.2.2.2.2.2 hG qm6) (by decide) rfl (Nat.le_of_ble_eq_true rfl) ⟨Nat.zero_le _, Nat.zero_le _⟩ rfl ?_
    change gV X w 0 0 (gR X w (some (.int rr)) rm) 2 15 [(0, .ref x0), (1, .int x1)] [.int r7] m6
    obtain ⟨o9, h⟩ := g_okk h
    obtain ⟨rfl, rfl⟩ := g_so h
    exact v_nret (pc := 15) C 7 rfl hr (g_naC o9)
theorem c_J0_charAt_5068e {l : Launch} {w : gW} {rr : Int32} {rm : gM} (hJ : gJok w) (hG : gJs w) {F : Nat} {x0 : Nat} {x1 : Int32} {m : gM} (h : f_J0_charAt_5068e w.2.2.2.2.1 F x0 x1 m = some (rr, rm)) : gMet l 3 yJ0_charAt_5068e cJ0_charAt_5068e 2 (some .char) w [.ref x0, .int x1] m (some (.int rr)) rm :=
  gMet.of hJ mf_J0_charAt_5068e dk_J0_charAt_5068e (Nat.le_of_ble_eq_true rfl) (fun X _ C hr => tf_J0_charAt_5068e (F := F) C hG hr h)
def b_X6_isWord_20 (sh : List gS) (F : Nat) (k20 : Nat → Int32 → Int32 → gM → Option (Int32 × gM)) (x0 : Nat) (x1 : Int32) (x2 : Int32) (m : gM) : Option (Int32 × gM) :=
  g_if (oB sh x0 6) (if (m.1 x0 2) ≤ x2 then (some (1, m)) else (g_if (isS 1000000) ((f_J0_charAt_5068e sh F 1000000 (x1 + x2) m).bind (fun q6 => nm q6.1 (fun r5 => nm q6.2 (fun m4 => (f_X7_nameByte sh F (m4.2.1 x0 3) (m4.2.1 x0 4) x2 m4).bind (fun q9 => nm q9.1 (fun r8 => nm q9.2 (fun m7 => if r5 = r8 then (nm (x2 + Int32.ofInt 1) (fun v11 => k20 x0 x1 v11 m7)) else (some (0, m7)))))))))))
set_option maxRecDepth 100000 in
set_option maxHeartbeats 4000000 in
theorem tb_X6_isWord_20 {X : gX} {w : gW} {rr : Int32} {rm : gM} (C : gC X w K_X6_isWord 3 RX6 4) (hG : gJs w) (hr : X.2.2.2.2.2.2.2.2.1.sig.returnType = (some .boolean)) {F : Nat} {k20 : Nat → Int32 → Int32 → gM → Option (Int32 × gM)} (hk20 : ∀ (z0 : Nat) (z1 : Int32) (z2 : Int32) (m : gM), k20 z0 z1 z2 m = some (rr, rm) → gV X w 0 0 (gR X w (some (.int rr)) rm) 3 20 [(0, .ref z0), (1, .int z1), (2, .int z2)] [] m) {x0 : Nat} {x1 : Int32} {x2 : Int32} {m : gM} (h : b_X6_isWord_20 w.2.2.2.2.1 F k20 x0 x1 x2 m = some (rr, rm)) : gV X w 0 0 (gR X w (some (.int rr)) rm) 3 20 [(0, .ref x0), (1, .int x1), (2, .int x2)] [] m := by
  unfold b_X6_isWord_20 at h
  refine v_iload_n (pc := 20) C 12 2 rfl rfl rfl ?_
  refine v_aload_n (pc := 21) C 13 0 rfl rfl rfl ?_
  obtain ⟨o1, h⟩ := g_okk h
  refine v_getI (pc := 22) C 14 rfl lf_ScopeGraph_Tokens_15.get (g_oB o1) rfl ?_
  refine v_icmp_ge (pc := 25) C 15 59 rfl (by decide) (fun c2 => ?_) (fun c2 => ?_)
  · replace h := g_ifT c2 h
    refine v_iconst (pc := 59) C 32 1 rfl (by decide) ?_
    obtain ⟨rfl, rfl⟩ := g_so h
    exact v_zret (pc := 60) C 33 rfl hr (by decide)
  · replace h := g_ifF c2 h
    refine v_ldcS (pc := 28) C 16 (k := 1000000) rfl (hG _ C.2.2.2.2.2.2.2.2.2.2.1).2.2.2.1 ?_
    refine v_iload_n (pc := 30) C 17 1 rfl rfl rfl ?_
    refine v_iload_n (pc := 31) C 18 2 rfl rfl rfl ?_
    refine v_iadd (pc := 32) C 19 rfl ?_
    obtain ⟨o3, h⟩ := g_okk h
    obtain ⟨⟨r5, m4⟩, qm4, h⟩ := g_bd h
    replace h := g_nm (y := m4) (g_nm (y := r5) h rfl) rfl
    refine v_callT (pc := 33) (st := []) C hG 20 rfl mf_J0_charAt_5068e rfl im_J0_charAt_5068e lm_ScopeGraph_Tokens_84 (c_J0_charAt_5068e C.2.2.2.2.2.2.2.2.2.2.2 hG qm4) (by decide) rfl o3 (Nat.le_of_ble_eq_true rfl) ⟨Nat.zero_le _, Nat.zero_le _⟩ rfl ?_
    change gV X w 0 0 (gR X w (some (.int rr)) rm) 3 36 [(0, .ref x0), (1, .int x1), (2, .int x2)] [.int r5] m4
    refine v_aload_n (pc := 36) C 21 0 rfl rfl rfl ?_
    refine v_getL (pc := 37) C 22 rfl lf_ScopeGraph_Tokens_61.get (g_oB o1) rfl ?_
    refine v_aload_n (pc := 40) C 23 0 rfl rfl rfl ?_
    refine v_getL (pc := 41) C 24 rfl lf_ScopeGraph_Tokens_65.get (g_oB o1) rfl ?_
    refine v_iload_n (pc := 44) C 25 2 rfl rfl rfl ?_
    obtain ⟨⟨r8, m7⟩, qm7, h⟩ := g_bd h
    replace h := g_nm (y := m7) (g_nm (y := r8) h rfl) rfl
    refine v_callS (pc := 45) C 26 rfl mf_X7_nameByte sm_X7_nameByte lm_ScopeGraph_Tokens_88 (c_X7_nameByte C.2.2.2.2.2.2.2.2.2.2.2 qm7) (by decide) rfl (Nat.le_of_ble_eq_true rfl) ⟨Nat.zero_le _, Nat.zero_le _⟩ rfl ?_
    change gV X w 0 0 (gR X w (some (.int rr)) rm) 3 48 [(0, .ref x0), (1, .int x1), (2, .int x2)] [.int r8, .int r5] m7
    refine v_icmp_eq (pc := 48) C 27 53 rfl (by decide) (fun c10 => ?_) (fun c10 => ?_)
    · replace h := g_ifT c10 h
      refine v_iincN (pc := 53) C 30 2 (fun v11 => [(2, .int v11), (0, .ref x0), (1, .int x1)]) rfl rfl (by decide) (fun _ => rfl) (fun v11 ev11 => ?_)
      replace h := g_nm h ev11
      refine v_goto (pc := 56) C 31 20 rfl (by decide) ?_
      refine v_sub [(0, .ref x0), (1, .int x1), (2, .int v11)] [1, 2, 0] rfl ?_
      exact hk20 _ _ _ _ h
    · replace h := g_ifF c10 h
      refine v_iconst (pc := 51) C 28 0 rfl (by decide) ?_
      obtain ⟨rfl, rfl⟩ := g_so h
      exact v_zret (pc := 52) C 29 rfl hr (by decide)
def l_X6_isWord_20 (sh : List gS) (F : Nat) : Nat → Nat → Int32 → Int32 → gM → Option (Int32 × gM)
  | 0 => fun _ _ _ _ => none
  | n + 1 => fun x0 x1 x2 m => b_X6_isWord_20 sh F (l_X6_isWord_20 sh F n) x0 x1 x2 m
theorem tl_X6_isWord_20 {X : gX} {w : gW} {rr : Int32} {rm : gM} (C : gC X w K_X6_isWord 3 RX6 4) (hG : gJs w) (hr : X.2.2.2.2.2.2.2.2.1.sig.returnType = (some .boolean)) {F : Nat} : ∀ (n : Nat) (x0 : Nat) (x1 : Int32) (x2 : Int32) (m : gM), l_X6_isWord_20 w.2.2.2.2.1 F n x0 x1 x2 m = some (rr, rm) → gV X w 0 0 (gR X w (some (.int rr)) rm) 3 20 [(0, .ref x0), (1, .int x1), (2, .int x2)] [] m := by
  intro n
  induction n with
  | zero => intro x0 x1 x2 m h; cases h
  | succ n ih => intro x0 x1 x2 m h; exact tb_X6_isWord_20 (F := F) C hG hr ih h
def f_X6_isWord (sh : List gS) (F : Nat) (x0 : Nat) (x1 : Int32) (m : gM) : Option (Int32 × gM) :=
  g_if (oB sh x0 6) (g_if (isS 1000000) ((f_J0_charAt_5068e sh F 1000000 (x1 + (m.1 x0 2)) m).bind (fun q5 => nm q5.1 (fun r4 => nm q5.2 (fun m3 => if r4 = (32 : Int32) then (l_X6_isWord_20 sh F F x0 x1 0 m3) else (some (0, m3)))))))
set_option maxRecDepth 100000 in
set_option maxHeartbeats 4000000 in
theorem tf_X6_isWord {X : gX} {w : gW} {rr : Int32} {rm : gM} (C : gC X w K_X6_isWord 3 RX6 4) (hG : gJs w) (hr : X.2.2.2.2.2.2.2.2.1.sig.returnType = (some .boolean)) {F : Nat} {x0 : Nat} {x1 : Int32} {m : gM} (h : f_X6_isWord w.2.2.2.2.1 F x0 x1 m = some (rr, rm)) : gV X w 0 0 (gR X w (some (.int rr)) rm) 3 0 [(0, .ref x0), (1, .int x1)] [] m := by
  unfold f_X6_isWord at h
  refine v_ldcS (pc := 0) C 0 (k := 1000000) rfl (hG _ C.2.2.2.2.2.2.2.2.2.2.1).2.2.2.1 ?_
  refine v_iload_n (pc := 2) C 1 1 rfl rfl rfl ?_
  refine v_aload_n (pc := 3) C 2 0 rfl rfl rfl ?_
  obtain ⟨o1, h⟩ := g_okk h
  refine v_getI (pc := 4) C 3 rfl lf_ScopeGraph_Tokens_15.get (g_oB o1) rfl ?_
  refine v_iadd (pc := 7) C 4 rfl ?_
  obtain ⟨o2, h⟩ := g_okk h
  obtain ⟨⟨r4, m3⟩, qm3, h⟩ := g_bd h
  replace h := g_nm (y := m3) (g_nm (y := r4) h rfl) rfl
  refine v_callT (pc := 8) (st := []) C hG 5 rfl mf_J0_charAt_5068e rfl im_J0_charAt_5068e lm_ScopeGraph_Tokens_84 (c_J0_charAt_5068e C.2.2.2.2.2.2.2.2.2.2.2 hG qm3) (by decide) rfl o2 (Nat.le_of_ble_eq_true rfl) ⟨Nat.zero_le _, Nat.zero_le _⟩ rfl ?_
  change gV X w 0 0 (gR X w (some (.int rr)) rm) 3 11 [(0, .ref x0), (1, .int x1)] [.int r4] m3
  refine v_bipush (pc := 11) C 6 32 rfl (by decide) ?_
  refine v_icmp_eq (pc := 13) C 7 18 rfl (by decide) (fun c6 => ?_) (fun c6 => ?_)
  · replace h := g_ifT c6 h
    refine v_iconst (pc := 18) C 10 0 rfl (by decide) ?_
    refine v_istore_n (pc := 19) (lv' := [(2, .int 0), (0, .ref x0), (1, .int x1)]) C 11 rfl rfl (by decide) rfl ?_
    refine v_sub [(0, .ref x0), (1, .int x1), (2, .int 0)] [1, 2, 0] rfl ?_
    exact tl_X6_isWord_20 (F := F) C hG hr _ _ _ _ _ h
  · replace h := g_ifF c6 h
    refine v_iconst (pc := 16) C 8 0 rfl (by decide) ?_
    obtain ⟨rfl, rfl⟩ := g_so h
    exact v_zret (pc := 17) C 9 rfl hr (by decide)
theorem c_X6_isWord {l : Launch} {w : gW} {rr : Int32} {rm : gM} (hJ : gJok w) (hG : gJs w) {F : Nat} {x0 : Nat} {x1 : Int32} {m : gM} (h : f_X6_isWord w.2.2.2.2.1 F x0 x1 m = some (rr, rm)) : gMet l 4 yX6_isWord cX6_isWord 3 (some .boolean) w [.ref x0, .int x1] m (some (.int rr)) rm :=
  gMet.of hJ mf_X6_isWord dk_X6_isWord (Nat.le_of_ble_eq_true rfl) (fun X _ C hr => tf_X6_isWord (F := F) C hG hr h)
def b_X6_wordOrName_2 (sh : List gS) (F : Nat) (k2 : Nat → Int32 → gM → Option (Int32 × gM)) (x0 : Nat) (x1 : Int32) (m : gM) : Option (Int32 × gM) :=
  if (8 : Int32) ≤ x1 then (some (264, m)) else (g_if (oB sh x0 6) (if (7 : Int32) ≤ (m.1 x0 2) then (some (264, m)) else ((f_X6_isWord sh F x0 (x1 * (7 : Int32)) m).bind (fun q6 => nm q6.1 (fun r5 => nm q6.2 (fun m4 => if r5 = 0 then (nm (x1 + Int32.ofInt 1) (fun v8 => k2 x0 v8 m4)) else (some ((256 : Int32) + x1, m4))))))))
set_option maxRecDepth 100000 in
set_option maxHeartbeats 4000000 in
theorem tb_X6_wordOrName_2 {X : gX} {w : gW} {rr : Int32} {rm : gM} (C : gC X w K_X6_wordOrName 2 RX6 5) (hG : gJs w) (hr : X.2.2.2.2.2.2.2.2.1.sig.returnType = (some .int)) {F : Nat} {k2 : Nat → Int32 → gM → Option (Int32 × gM)} (hk2 : ∀ (z0 : Nat) (z1 : Int32) (m : gM), k2 z0 z1 m = some (rr, rm) → gV X w 0 0 (gR X w (some (.int rr)) rm) 2 2 [(0, .ref z0), (1, .int z1)] [] m) {x0 : Nat} {x1 : Int32} {m : gM} (h : b_X6_wordOrName_2 w.2.2.2.2.1 F k2 x0 x1 m = some (rr, rm)) : gV X w 0 0 (gR X w (some (.int rr)) rm) 2 2 [(0, .ref x0), (1, .int x1)] [] m := by
  unfold b_X6_wordOrName_2 at h
  refine v_iload_n (pc := 2) C 2 1 rfl rfl rfl ?_
  refine v_bipush (pc := 3) C 3 8 rfl (by decide) ?_
  refine v_icmp_ge (pc := 5) C 4 40 rfl (by decide) (fun c1 => ?_) (fun c1 => ?_)
  · replace h := g_ifT c1 h
    refine v_sipush (pc := 40) C 21 264 rfl (by decide) ?_
    obtain ⟨rfl, rfl⟩ := g_so h
    exact v_iret (pc := 43) C 22 rfl hr
  · replace h := g_ifF c1 h
    refine v_aload_n (pc := 8) C 5 0 rfl rfl rfl ?_
    obtain ⟨o2, h⟩ := g_okk h
    refine v_getI (pc := 9) C 6 rfl lf_ScopeGraph_Tokens_15.get (g_oB o2) rfl ?_
    refine v_bipush (pc := 12) C 7 7 rfl (by decide) ?_
    refine v_icmp_ge (pc := 14) C 8 40 rfl (by decide) (fun c3 => ?_) (fun c3 => ?_)
    · replace h := g_ifT c3 h
      refine v_sipush (pc := 40) C 21 264 rfl (by decide) ?_
      obtain ⟨rfl, rfl⟩ := g_so h
      exact v_iret (pc := 43) C 22 rfl hr
    · replace h := g_ifF c3 h
      refine v_aload_n (pc := 17) C 9 0 rfl rfl rfl ?_
      refine v_iload_n (pc := 18) C 10 1 rfl rfl rfl ?_
      refine v_bipush (pc := 19) C 11 7 rfl (by decide) ?_
      refine v_imul (pc := 21) C 12 rfl ?_
      obtain ⟨⟨r5, m4⟩, qm4, h⟩ := g_bd h
      replace h := g_nm (y := m4) (g_nm (y := r5) h rfl) rfl
      refine v_callV (pc := 22) C 13 rfl mf_X6_isWord clX6 rfl im_X6_isWord lm_ScopeGraph_Tokens_79 (c_X6_isWord C.2.2.2.2.2.2.2.2.2.2.2 hG qm4) (by decide) rfl (g_oB o2) (Nat.le_of_ble_eq_true rfl) ⟨Nat.zero_le _, Nat.zero_le _⟩ rfl ?_
      change gV X w 0 0 (gR X w (some (.int rr)) rm) 2 25 [(0, .ref x0), (1, .int x1)] [.int r5] m4
      refine v_if_eq (pc := 25) C 14 34 rfl (by decide) (fun c7 => ?_) (fun c7 => ?_)
      · replace h := g_ifT c7 h
        refine v_iincN (pc := 34) C 19 1 (fun v8 => [(1, .int v8), (0, .ref x0)]) rfl rfl (by decide) (fun _ => rfl) (fun v8 ev8 => ?_)
        replace h := g_nm h ev8
        refine v_goto (pc := 37) C 20 2 rfl (by decide) ?_
        refine v_sub [(0, .ref x0), (1, .int v8)] [1, 0] rfl ?_
        exact hk2 _ _ _ h
      · replace h := g_ifF c7 h
        refine v_sipush (pc := 28) C 15 256 rfl (by decide) ?_
        refine v_iload_n (pc := 31) C 16 1 rfl rfl rfl ?_
        refine v_iadd (pc := 32) C 17 rfl ?_
        obtain ⟨rfl, rfl⟩ := g_so h
        exact v_iret (pc := 33) C 18 rfl hr
def l_X6_wordOrName_2 (sh : List gS) (F : Nat) : Nat → Nat → Int32 → gM → Option (Int32 × gM)
  | 0 => fun _ _ _ => none
  | n + 1 => fun x0 x1 m => b_X6_wordOrName_2 sh F (l_X6_wordOrName_2 sh F n) x0 x1 m
theorem tl_X6_wordOrName_2 {X : gX} {w : gW} {rr : Int32} {rm : gM} (C : gC X w K_X6_wordOrName 2 RX6 5) (hG : gJs w) (hr : X.2.2.2.2.2.2.2.2.1.sig.returnType = (some .int)) {F : Nat} : ∀ (n : Nat) (x0 : Nat) (x1 : Int32) (m : gM), l_X6_wordOrName_2 w.2.2.2.2.1 F n x0 x1 m = some (rr, rm) → gV X w 0 0 (gR X w (some (.int rr)) rm) 2 2 [(0, .ref x0), (1, .int x1)] [] m := by
  intro n
  induction n with
  | zero => intro x0 x1 m h; cases h
  | succ n ih => intro x0 x1 m h; exact tb_X6_wordOrName_2 (F := F) C hG hr ih h
def f_X6_wordOrName (sh : List gS) (F : Nat) (x0 : Nat) (m : gM) : Option (Int32 × gM) :=
  l_X6_wordOrName_2 sh F F x0 0 m
set_option maxRecDepth 100000 in
set_option maxHeartbeats 4000000 in
theorem tf_X6_wordOrName {X : gX} {w : gW} {rr : Int32} {rm : gM} (C : gC X w K_X6_wordOrName 2 RX6 5) (hG : gJs w) (hr : X.2.2.2.2.2.2.2.2.1.sig.returnType = (some .int)) {F : Nat} {x0 : Nat} {m : gM} (h : f_X6_wordOrName w.2.2.2.2.1 F x0 m = some (rr, rm)) : gV X w 0 0 (gR X w (some (.int rr)) rm) 2 0 [(0, .ref x0)] [] m := by
  unfold f_X6_wordOrName at h
  refine v_iconst (pc := 0) C 0 0 rfl (by decide) ?_
  refine v_istore_n (pc := 1) (lv' := [(1, .int 0), (0, .ref x0)]) C 1 rfl rfl (by decide) rfl ?_
  refine v_sub [(0, .ref x0), (1, .int 0)] [1, 0] rfl ?_
  exact tl_X6_wordOrName_2 (F := F) C hG hr _ _ _ _ h
theorem c_X6_wordOrName {l : Launch} {w : gW} {rr : Int32} {rm : gM} (hJ : gJok w) (hG : gJs w) {F : Nat} {x0 : Nat} {m : gM} (h : f_X6_wordOrName w.2.2.2.2.1 F x0 m = some (rr, rm)) : gMet l 5 yX6_wordOrName cX6_wordOrName 2 (some .int) w [.ref x0] m (some (.int rr)) rm :=
  gMet.of hJ mf_X6_wordOrName dk_X6_wordOrName (Nat.le_of_ble_eq_true rfl) (fun X _ C hr => tf_X6_wordOrName (F := F) C hG hr h)
def b_X6_takeName_81 (sh : List gS) (F : Nat) (y0 : Int32) (y1 : Nat) (m : gM) : Option (gM) :=
  g_if (oB sh y1 6) (nm (gsI m y1 0 y0) (fun m2 => some m2))
set_option maxRecDepth 100000 in
set_option maxHeartbeats 4000000 in
theorem tb_X6_takeName_81 {X : gX} {w : gW} {rm : gM} (C : gC X w K_X6_takeName 3 RX6 6) (hG : gJs w) (hr : X.2.2.2.2.2.2.2.2.1.sig.returnType = none) {F : Nat} {y0 : Int32} {y1 : Nat} {m : gM} (h : b_X6_takeName_81 w.2.2.2.2.1 F y0 y1 m = some rm) : gV X w 0 0 (gR X w none rm) 3 81 [] [.int y0, .ref y1] m := by
  unfold b_X6_takeName_81 at h
  obtain ⟨o1, h⟩ := g_okk h
  refine v_putI (pc := 81) C 42 rfl lf_ScopeGraph_Tokens_28 (g_oB o1) rfl ?_
  refine v_topM (fun m2 em2 => ?_)
  replace h := g_nm h em2
  cases g_s1' h
  exact v_vret (pc := 84) C 43 rfl hr
def b_X6_takeName_56 (sh : List gS) (F : Nat) (x0 : Nat) (x2 : Int32) (m : gM) : Option (gM) :=
  g_if (oB sh x0 6) (nm (gsI m x0 2 x2) (fun m2 => if (m2.1 x0 2) ≤ (12 : Int32) then ((f_X6_wordOrName sh F x0 m2).bind (fun q6 => nm q6.1 (fun r5 => nm q6.2 (fun m4 => b_X6_takeName_81 sh F r5 x0 m4)))) else (b_X6_takeName_81 sh F 267 x0 m2)))
set_option maxRecDepth 100000 in
set_option maxHeartbeats 4000000 in
theorem tb_X6_takeName_56 {X : gX} {w : gW} {rm : gM} (C : gC X w K_X6_takeName 3 RX6 6) (hG : gJs w) (hr : X.2.2.2.2.2.2.2.2.1.sig.returnType = none) {F : Nat} {x0 : Nat} {x2 : Int32} {m : gM} (h : b_X6_takeName_56 w.2.2.2.2.1 F x0 x2 m = some rm) : gV X w 0 0 (gR X w none rm) 3 56 [(0, .ref x0), (2, .int x2)] [] m := by
  unfold b_X6_takeName_56 at h
  refine v_aload_n (pc := 56) C 30 0 rfl rfl rfl ?_
  refine v_iload_n (pc := 57) C 31 1 rfl rfl rfl ?_
  obtain ⟨o1, h⟩ := g_okk h
  refine v_putI (pc := 58) C 32 rfl lf_ScopeGraph_Tokens_15 (g_oB o1) rfl ?_
  refine v_topM (fun m2 em2 => ?_)
  replace h := g_nm h em2
  refine v_aload_n (pc := 61) C 33 0 rfl rfl rfl ?_
  refine v_aload_n (pc := 62) C 34 0 rfl rfl rfl ?_
  refine v_getI (pc := 63) C 35 rfl lf_ScopeGraph_Tokens_15.get (g_oB o1) rfl ?_
  refine v_bipush (pc := 66) C 36 12 rfl (by decide) ?_
  refine v_icmp_le (pc := 68) C 37 77 rfl (by decide) (fun c3 => ?_) (fun c3 => ?_)
  · replace h := g_ifT c3 h
    refine v_aload_n (pc := 77) C 40 0 rfl rfl rfl ?_
    obtain ⟨⟨r5, m4⟩, qm4, h⟩ := g_bd h
    replace h := g_nm (y := m4) (g_nm (y := r5) h rfl) rfl
    refine v_callV (pc := 78) C 41 rfl mf_X6_wordOrName clX6 rfl im_X6_wordOrName lm_ScopeGraph_Tokens_75 (c_X6_wordOrName C.2.2.2.2.2.2.2.2.2.2.2 hG qm4) (by decide) rfl (g_oB o1) (Nat.le_of_ble_eq_true rfl) ⟨Nat.zero_le _, Nat.zero_le _⟩ rfl ?_
    change gV X w 0 0 (gR X w none rm) 3 81 [(0, .ref x0), (2, .int x2)] [.int r5, .ref x0] m4
    refine v_sub [] [] rfl ?_
    exact tb_X6_takeName_81 (F := F) C hG hr h
  · replace h := g_ifF c3 h
    refine v_sipush (pc := 71) C 38 267 rfl (by decide) ?_
    refine v_goto (pc := 74) C 39 81 rfl (by decide) ?_
    refine v_sub [] [] rfl ?_
    exact tb_X6_takeName_81 (F := F) C hG hr h
def b_X6_takeName_12 (sh : List gS) (F : Nat) (k12 : Nat → Nat → Int32 → gM → Option (gM)) (x0 : Nat) (x1 : Nat) (x2 : Int32) (m : gM) : Option (gM) :=
  if (4000 : Int32) ≤ x2 then (b_X6_takeName_56 sh F x0 x2 m) else (g_if (oB sh x0 6) (g_if (oB sh x1 5) ((f_X5_at sh F x1 ((m.1 x0 1) + x2) m).bind (fun q6 => nm q6.1 (fun r5 => nm q6.2 (fun m4 => (f_X6_isInName sh F r5 m4).bind (fun q9 => nm q9.1 (fun r8 => nm q9.2 (fun m7 => if r8 = 0 then (b_X6_takeName_56 sh F x0 x2 m7) else ((f_X5_at sh F x1 ((m7.1 x0 1) + x2) m7).bind (fun q13 => nm q13.1 (fun r12 => nm q13.2 (fun m11 => (f_X6_packByte sh F x0 x2 r12 m11).bind (fun m14 => nm (x2 + Int32.ofInt 1) (fun v16 => k12 x0 x1 v16 m14)))))))))))))))
set_option maxRecDepth 100000 in
set_option maxHeartbeats 4000000 in
theorem tb_X6_takeName_12 {X : gX} {w : gW} {rm : gM} (C : gC X w K_X6_takeName 3 RX6 6) (hG : gJs w) (hr : X.2.2.2.2.2.2.2.2.1.sig.returnType = none) {F : Nat} {k12 : Nat → Nat → Int32 → gM → Option (gM)} (hk12 : ∀ (z0 : Nat) (z1 : Nat) (z2 : Int32) (m : gM), k12 z0 z1 z2 m = some rm → gV X w 0 0 (gR X w none rm) 3 12 [(0, .ref z0), (1, .ref z1), (2, .int z2)] [] m) {x0 : Nat} {x1 : Nat} {x2 : Int32} {m : gM} (h : b_X6_takeName_12 w.2.2.2.2.1 F k12 x0 x1 x2 m = some rm) : gV X w 0 0 (gR X w none rm) 3 12 [(0, .ref x0), (1, .ref x1), (2, .int x2)] [] m := by
  unfold b_X6_takeName_12 at h
  refine v_iload_n (pc := 12) C 8 2 rfl rfl rfl ?_
  refine v_sipush (pc := 13) C 9 4000 rfl (by decide) ?_
  refine v_icmp_ge (pc := 16) C 10 56 rfl (by decide) (fun c1 => ?_) (fun c1 => ?_)
  · replace h := g_ifT c1 h
    refine v_sub [(0, .ref x0), (2, .int x2)] [0, 2] rfl ?_
    exact tb_X6_takeName_56 (F := F) C hG hr h
  · replace h := g_ifF c1 h
    refine v_aload_n (pc := 19) C 11 1 rfl rfl rfl ?_
    refine v_aload_n (pc := 20) C 12 0 rfl rfl rfl ?_
    obtain ⟨o2, h⟩ := g_okk h
    refine v_getI (pc := 21) C 13 rfl lf_ScopeGraph_Tokens_9.get (g_oB o2) rfl ?_
    refine v_iload_n (pc := 24) C 14 2 rfl rfl rfl ?_
    refine v_iadd (pc := 25) C 15 rfl ?_
    obtain ⟨o3, h⟩ := g_okk h
    obtain ⟨⟨r5, m4⟩, qm4, h⟩ := g_bd h
    replace h := g_nm (y := m4) (g_nm (y := r5) h rfl) rfl
    refine v_callV (pc := 26) C 16 rfl mf_X5_at clX5 rfl im_X5_at lm_ScopeGraph_Tokens_22 (c_X5_at C.2.2.2.2.2.2.2.2.2.2.2 qm4) (by decide) rfl (g_oB o3) (Nat.le_of_ble_eq_true rfl) ⟨Nat.zero_le _, Nat.zero_le _⟩ rfl ?_
    change gV X w 0 0 (gR X w none rm) 3 29 [(0, .ref x0), (1, .ref x1), (2, .int x2)] [.int r5] m4
    obtain ⟨⟨r8, m7⟩, qm7, h⟩ := g_bd h
    replace h := g_nm (y := m7) (g_nm (y := r8) h rfl) rfl
    refine v_callS (pc := 29) C 17 rfl mf_X6_isInName sm_X6_isInName lm_ScopeGraph_Tokens_68 (c_X6_isInName C.2.2.2.2.2.2.2.2.2.2.2 qm7) (by decide) rfl (Nat.le_of_ble_eq_true rfl) ⟨Nat.zero_le _, Nat.zero_le _⟩ rfl ?_
    change gV X w 0 0 (gR X w none rm) 3 32 [(0, .ref x0), (1, .ref x1), (2, .int x2)] [.int r8] m7
    refine v_if_eq (pc := 32) C 18 56 rfl (by decide) (fun c10 => ?_) (fun c10 => ?_)
    · replace h := g_ifT c10 h
      refine v_sub [(0, .ref x0), (2, .int x2)] [0, 2] rfl ?_
      exact tb_X6_takeName_56 (F := F) C hG hr h
    · replace h := g_ifF c10 h
      refine v_aload_n (pc := 35) C 19 0 rfl rfl rfl ?_
      refine v_iload_n (pc := 36) C 20 2 rfl rfl rfl ?_
      refine v_aload_n (pc := 37) C 21 1 rfl rfl rfl ?_
      refine v_aload_n (pc := 38) C 22 0 rfl rfl rfl ?_
      refine v_getI (pc := 39) C 23 rfl lf_ScopeGraph_Tokens_9.get (g_oB o2) rfl ?_
      refine v_iload_n (pc := 42) C 24 2 rfl rfl rfl ?_
      refine v_iadd (pc := 43) C 25 rfl ?_
      obtain ⟨⟨r12, m11⟩, qm11, h⟩ := g_bd h
      replace h := g_nm (y := m11) (g_nm (y := r12) h rfl) rfl
      refine v_callV (pc := 44) C 26 rfl mf_X5_at clX5 rfl im_X5_at lm_ScopeGraph_Tokens_22 (c_X5_at C.2.2.2.2.2.2.2.2.2.2.2 qm11) (by decide) rfl (g_oB o3) (Nat.le_of_ble_eq_true rfl) ⟨Nat.zero_le _, Nat.zero_le _⟩ rfl ?_
      change gV X w 0 0 (gR X w none rm) 3 47 [(0, .ref x0), (1, .ref x1), (2, .int x2)] [.int r12, .int x2, .ref x0] m11
      obtain ⟨m14, qm14, h⟩ := g_bd h
      refine v_callV (pc := 47) C 27 rfl mf_X6_packByte clX6 rfl im_X6_packByte lm_ScopeGraph_Tokens_71 (c_X6_packByte C.2.2.2.2.2.2.2.2.2.2.2 qm14) (by decide) rfl (g_oB o2) (Nat.le_of_ble_eq_true rfl) ⟨Nat.zero_le _, Nat.zero_le _⟩ rfl ?_
      change gV X w 0 0 (gR X w none rm) 3 50 [(0, .ref x0), (1, .ref x1), (2, .int x2)] [] m14
      refine v_iincN (pc := 50) C 28 2 (fun v16 => [(2, .int v16), (0, .ref x0), (1, .ref x1)]) rfl rfl (by decide) (fun _ => rfl) (fun v16 ev16 => ?_)
      replace h := g_nm h ev16
      refine v_goto (pc := 53) C 29 12 rfl (by decide) ?_
      refine v_sub [(0, .ref x0), (1, .ref x1), (2, .int v16)] [1, 2, 0] rfl ?_
      exact hk12 _ _ _ _ h
def l_X6_takeName_12 (sh : List gS) (F : Nat) : Nat → Nat → Nat → Int32 → gM → Option (gM)
  | 0 => fun _ _ _ _ => none
  | n + 1 => fun x0 x1 x2 m => b_X6_takeName_12 sh F (l_X6_takeName_12 sh F n) x0 x1 x2 m
theorem tl_X6_takeName_12 {X : gX} {w : gW} {rm : gM} (C : gC X w K_X6_takeName 3 RX6 6) (hG : gJs w) (hr : X.2.2.2.2.2.2.2.2.1.sig.returnType = none) {F : Nat} : ∀ (n : Nat) (x0 : Nat) (x1 : Nat) (x2 : Int32) (m : gM), l_X6_takeName_12 w.2.2.2.2.1 F n x0 x1 x2 m = some rm → gV X w 0 0 (gR X w none rm) 3 12 [(0, .ref x0), (1, .ref x1), (2, .int x2)] [] m := by
  intro n
  induction n with
  | zero => intro x0 x1 x2 m h; cases h
  | succ n ih => intro x0 x1 x2 m h; exact tb_X6_takeName_12 (F := F) C hG hr ih h
def f_X6_takeName (sh : List gS) (F : Nat) (x0 : Nat) (x1 : Nat) (m : gM) : Option (gM) :=
  g_if (oB sh x0 6) (nm (gsL m x0 3 0) (fun m2 => nm (gsL m2 x0 4 0) (fun m3 => l_X6_takeName_12 sh F F x0 x1 0 m3)))
set_option maxRecDepth 100000 in
set_option maxHeartbeats 4000000 in
theorem tf_X6_takeName {X : gX} {w : gW} {rm : gM} (C : gC X w K_X6_takeName 3 RX6 6) (hG : gJs w) (hr : X.2.2.2.2.2.2.2.2.1.sig.returnType = none) {F : Nat} {x0 : Nat} {x1 : Nat} {m : gM} (h : f_X6_takeName w.2.2.2.2.1 F x0 x1 m = some rm) : gV X w 0 0 (gR X w none rm) 3 0 [(0, .ref x0), (1, .ref x1)] [] m := by
  unfold f_X6_takeName at h
  refine v_aload_n (pc := 0) C 0 0 rfl rfl rfl ?_
  refine v_lconst (pc := 1) C 1 0 rfl (by decide) ?_
  obtain ⟨o1, h⟩ := g_okk h
  refine v_putL (pc := 2) C 2 rfl lf_ScopeGraph_Tokens_61 (g_oB o1) rfl ?_
  refine v_topM (fun m2 em2 => ?_)
  replace h := g_nm h em2
  refine v_aload_n (pc := 5) C 3 0 rfl rfl rfl ?_
  refine v_lconst (pc := 6) C 4 0 rfl (by decide) ?_
  refine v_putL (pc := 7) C 5 rfl lf_ScopeGraph_Tokens_65 (g_oB o1) rfl ?_
  refine v_topM (fun m3 em3 => ?_)
  replace h := g_nm h em3
  refine v_iconst (pc := 10) C 6 0 rfl (by decide) ?_
  refine v_istore_n (pc := 11) (lv' := [(2, .int 0), (0, .ref x0), (1, .ref x1)]) C 7 rfl rfl (by decide) rfl ?_
  refine v_sub [(0, .ref x0), (1, .ref x1), (2, .int 0)] [1, 2, 0] rfl ?_
  exact tl_X6_takeName_12 (F := F) C hG hr _ _ _ _ _ h
theorem c_X6_takeName {l : Launch} {w : gW} {rm : gM} (hJ : gJok w) (hG : gJs w) {F : Nat} {x0 : Nat} {x1 : Nat} {m : gM} (h : f_X6_takeName w.2.2.2.2.1 F x0 x1 m = some rm) : gMet l 6 yX6_takeName cX6_takeName 3 none w [.ref x0, .ref x1] m none rm :=
  gMet.of hJ mf_X6_takeName dk_X6_takeName (Nat.le_of_ble_eq_true rfl) (fun X _ C hr => tf_X6_takeName (F := F) C hG hr h)
def b_X6_advance_94 (sh : List gS) (F : Nat) (y0 : Int32) (y1 : Nat) (m : gM) : Option (gM) :=
  g_if (oB sh y1 6) (nm (gsI m y1 0 y0) (fun m2 => some m2))
set_option maxRecDepth 100000 in
set_option maxHeartbeats 4000000 in
theorem tb_X6_advance_94 {X : gX} {w : gW} {rm : gM} (C : gC X w K_X6_advance 3 RX6 7) (hG : gJs w) (hr : X.2.2.2.2.2.2.2.2.1.sig.returnType = none) {F : Nat} {y0 : Int32} {y1 : Nat} {m : gM} (h : b_X6_advance_94 w.2.2.2.2.1 F y0 y1 m = some rm) : gV X w 0 0 (gR X w none rm) 3 94 [] [.int y0, .ref y1] m := by
  unfold b_X6_advance_94 at h
  obtain ⟨o1, h⟩ := g_okk h
  refine v_putI (pc := 94) C 47 rfl lf_ScopeGraph_Tokens_28 (g_oB o1) rfl ?_
  refine v_topM (fun m2 em2 => ?_)
  replace h := g_nm h em2
  cases g_s1' h
  exact v_vret (pc := 97) C 48 rfl hr
def f_X6_advance (sh : List gS) (F : Nat) (x0 : Nat) (x1 : Nat) (m : gM) : Option (gM) :=
  g_if (oB sh x0 6) ((f_X6_behindBlanks sh F x1 ((m.1 x0 1) + (m.1 x0 2)) m).bind (fun q4 => nm q4.1 (fun r3 => nm q4.2 (fun m2 => nm (gsI m2 x0 1 r3) (fun m5 => g_if (oB sh x1 5) ((f_X5_at sh F x1 (m5.1 x0 1) m5).bind (fun q9 => nm q9.1 (fun r8 => nm q9.2 (fun m7 => nm (gsI m7 x0 2 1) (fun m10 => if r8 = ((-1) : Int32) then (nm (gsI m10 x0 0 266) (fun m29 => some m29)) else ((f_X6_beginsName sh F r8 m10).bind (fun q14 => nm q14.1 (fun r13 => nm q14.2 (fun m12 => if r13 = 0 then ((f_X6_isDigit sh F r8 m12).bind (fun q18 => nm q18.1 (fun r17 => nm q18.2 (fun m16 => if r17 = 0 then (g_if (isS 1000001) ((f_J0_indexOf_0f7a4 sh F 1000001 ((r8.toUInt32 % 65536).toInt32) m16).bind (fun q23 => nm q23.1 (fun r22 => nm q23.2 (fun m21 => if r22 < 0 then (b_X6_advance_94 sh F 267 x0 m21) else (b_X6_advance_94 sh F r8 x0 m21)))))) else ((f_X6_takeNumber sh F x0 x1 m16).bind (fun m25 => some m25)))))) else ((f_X6_takeName sh F x0 x1 m12).bind (fun m27 => some m27))))))))))))))))
set_option maxRecDepth 100000 in
set_option maxHeartbeats 4000000 in
theorem tf_X6_advance {X : gX} {w : gW} {rm : gM} (C : gC X w K_X6_advance 3 RX6 7) (hG : gJs w) (hr : X.2.2.2.2.2.2.2.2.1.sig.returnType = none) {F : Nat} {x0 : Nat} {x1 : Nat} {m : gM} (h : f_X6_advance w.2.2.2.2.1 F x0 x1 m = some rm) : gV X w 0 0 (gR X w none rm) 3 0 [(0, .ref x0), (1, .ref x1)] [] m := by
  unfold f_X6_advance at h
  refine v_aload_n (pc := 0) C 0 0 rfl rfl rfl ?_
  refine v_aload_n (pc := 1) C 1 1 rfl rfl rfl ?_
  refine v_aload_n (pc := 2) C 2 0 rfl rfl rfl ?_
  obtain ⟨o1, h⟩ := g_okk h
  refine v_getI (pc := 3) C 3 rfl lf_ScopeGraph_Tokens_9.get (g_oB o1) rfl ?_
  refine v_aload_n (pc := 6) C 4 0 rfl rfl rfl ?_
  refine v_getI (pc := 7) C 5 rfl lf_ScopeGraph_Tokens_15.get (g_oB o1) rfl ?_
  refine v_iadd (pc := 10) C 6 rfl ?_
  obtain ⟨⟨r3, m2⟩, qm2, h⟩ := g_bd h
  replace h := g_nm (y := m2) (g_nm (y := r3) h rfl) rfl
  refine v_callS (pc := 11) C 7 rfl mf_X6_behindBlanks sm_X6_behindBlanks lm_ScopeGraph_Tokens_18 (c_X6_behindBlanks C.2.2.2.2.2.2.2.2.2.2.2 qm2) (by decide) rfl (Nat.le_of_ble_eq_true rfl) ⟨Nat.zero_le _, Nat.zero_le _⟩ rfl ?_
  change gV X w 0 0 (gR X w none rm) 3 14 [(0, .ref x0), (1, .ref x1)] [.int r3, .ref x0] m2
  refine v_putI (pc := 14) C 8 rfl lf_ScopeGraph_Tokens_9 (g_oB o1) rfl ?_
  refine v_topM (fun m5 em5 => ?_)
  replace h := g_nm h em5
  refine v_aload_n (pc := 17) C 9 1 rfl rfl rfl ?_
  refine v_aload_n (pc := 18) C 10 0 rfl rfl rfl ?_
  refine v_getI (pc := 19) C 11 rfl lf_ScopeGraph_Tokens_9.get (g_oB o1) rfl ?_
  obtain ⟨o6, h⟩ := g_okk h
  obtain ⟨⟨r8, m7⟩, qm7, h⟩ := g_bd h
  replace h := g_nm (y := m7) (g_nm (y := r8) h rfl) rfl
  refine v_callV (pc := 22) C 12 rfl mf_X5_at clX5 rfl im_X5_at lm_ScopeGraph_Tokens_22 (c_X5_at C.2.2.2.2.2.2.2.2.2.2.2 qm7) (by decide) rfl (g_oB o6) (Nat.le_of_ble_eq_true rfl) ⟨Nat.zero_le _, Nat.zero_le _⟩ rfl ?_
  change gV X w 0 0 (gR X w none rm) 3 25 [(0, .ref x0), (1, .ref x1)] [.int r8] m7
  refine v_istore_n (pc := 25) (lv' := [(2, .int r8), (0, .ref x0), (1, .ref x1)]) C 13 rfl rfl (by decide) rfl ?_
  refine v_aload_n (pc := 26) C 14 1 rfl rfl rfl ?_
  refine v_iconst (pc := 27) C 15 1 rfl (by decide) ?_
  refine v_putI (pc := 28) C 16 rfl lf_ScopeGraph_Tokens_15 (g_oB o1) rfl ?_
  refine v_topM (fun m10 em10 => ?_)
  replace h := g_nm h em10
  refine v_iload_n (pc := 31) C 17 0 rfl rfl rfl ?_
  refine v_iconst (pc := 32) C 18 (-1) rfl (by decide) ?_
  refine v_icmp_ne (pc := 33) C 19 46 rfl (by decide) (fun c11 => ?_) (fun c11 => ?_)
  · replace h := g_ifF c11 h
    refine v_iload_n (pc := 46) C 24 0 rfl rfl rfl ?_
    obtain ⟨⟨r13, m12⟩, qm12, h⟩ := g_bd h
    replace h := g_nm (y := m12) (g_nm (y := r13) h rfl) rfl
    refine v_callS (pc := 47) C 25 rfl mf_X6_beginsName sm_X6_beginsName lm_ScopeGraph_Tokens_31 (c_X6_beginsName C.2.2.2.2.2.2.2.2.2.2.2 qm12) (by decide) rfl (Nat.le_of_ble_eq_true rfl) ⟨Nat.zero_le _, Nat.zero_le _⟩ rfl ?_
    change gV X w 0 0 (gR X w none rm) 3 50 [(2, .int r8), (0, .ref x0), (1, .ref x1)] [.int r13] m12
    refine v_if_eq (pc := 50) C 26 61 rfl (by decide) (fun c15 => ?_) (fun c15 => ?_)
    · replace h := g_ifT c15 h
      refine v_iload_n (pc := 61) C 31 0 rfl rfl rfl ?_
      obtain ⟨⟨r17, m16⟩, qm16, h⟩ := g_bd h
      replace h := g_nm (y := m16) (g_nm (y := r17) h rfl) rfl
      refine v_callS (pc := 62) C 32 rfl mf_X6_isDigit sm_X6_isDigit lm_ScopeGraph_Tokens_39 (c_X6_isDigit C.2.2.2.2.2.2.2.2.2.2.2 qm16) (by decide) rfl (Nat.le_of_ble_eq_true rfl) ⟨Nat.zero_le _, Nat.zero_le _⟩ rfl ?_
      change gV X w 0 0 (gR X w none rm) 3 65 [(2, .int r8), (0, .ref x0), (1, .ref x1)] [.int r17] m16
      refine v_if_eq (pc := 65) C 33 76 rfl (by decide) (fun c19 => ?_) (fun c19 => ?_)
      · replace h := g_ifT c19 h
        refine v_aload_n (pc := 76) C 38 1 rfl rfl rfl ?_
        refine v_ldcS (pc := 77) C 39 (k := 1000001) rfl (hG _ C.2.2.2.2.2.2.2.2.2.2.1).2.2.2.2.1 ?_
        refine v_iload_n (pc := 79) C 40 0 rfl rfl rfl ?_
        refine v_i2c (pc := 80) C 41 rfl ?_
        obtain ⟨o20, h⟩ := g_okk h
        obtain ⟨⟨r22, m21⟩, qm21, h⟩ := g_bd h
        replace h := g_nm (y := m21) (g_nm (y := r22) h rfl) rfl
        refine v_callT (pc := 81) (st := [.ref x0]) C hG 42 rfl mf_J0_indexOf_0f7a4 rfl im_J0_indexOf_0f7a4 lm_ScopeGraph_Tokens_47 (c_J0_indexOf_0f7a4 C.2.2.2.2.2.2.2.2.2.2.2 hG qm21) (by decide) rfl o20 (Nat.le_of_ble_eq_true rfl) ⟨Nat.zero_le _, Nat.zero_le _⟩ rfl ?_
        change gV X w 0 0 (gR X w none rm) 3 84 [(2, .int r8), (0, .ref x0), (1, .ref x1)] [.int r22, .ref x0] m21
        refine v_if_lt (pc := 84) C 43 91 rfl (by decide) (fun c24 => ?_) (fun c24 => ?_)
        · replace h := g_ifT c24 h
          refine v_sipush (pc := 91) C 46 267 rfl (by decide) ?_
          refine v_sub [] [] rfl ?_
          exact tb_X6_advance_94 (F := F) C hG hr h
        · replace h := g_ifF c24 h
          refine v_iload_n (pc := 87) C 44 0 rfl rfl rfl ?_
          refine v_goto (pc := 88) C 45 94 rfl (by decide) ?_
          refine v_sub [] [] rfl ?_
          exact tb_X6_advance_94 (F := F) C hG hr h
      · replace h := g_ifF c19 h
        refine v_aload_n (pc := 68) C 34 1 rfl rfl rfl ?_
        refine v_aload_n (pc := 69) C 35 2 rfl rfl rfl ?_
        obtain ⟨m25, qm25, h⟩ := g_bd h
        refine v_callV (pc := 70) C 36 rfl mf_X6_takeNumber clX6 rfl im_X6_takeNumber lm_ScopeGraph_Tokens_42 (c_X6_takeNumber C.2.2.2.2.2.2.2.2.2.2.2 qm25) (by decide) rfl (g_oB o1) (Nat.le_of_ble_eq_true rfl) ⟨Nat.zero_le _, Nat.zero_le _⟩ rfl ?_
        change gV X w 0 0 (gR X w none rm) 3 73 [(2, .int r8), (0, .ref x0), (1, .ref x1)] [] m25
        refine v_goto (pc := 73) C 37 97 rfl (by decide) ?_
        cases g_s1' h
        exact v_vret (pc := 97) C 48 rfl hr
    · replace h := g_ifF c15 h
      refine v_aload_n (pc := 53) C 27 1 rfl rfl rfl ?_
      refine v_aload_n (pc := 54) C 28 2 rfl rfl rfl ?_
      obtain ⟨m27, qm27, h⟩ := g_bd h
      refine v_callV (pc := 55) C 29 rfl mf_X6_takeName clX6 rfl im_X6_takeName lm_ScopeGraph_Tokens_35 (c_X6_takeName C.2.2.2.2.2.2.2.2.2.2.2 hG qm27) (by decide) rfl (g_oB o1) (Nat.le_of_ble_eq_true rfl) ⟨Nat.zero_le _, Nat.zero_le _⟩ rfl ?_
      change gV X w 0 0 (gR X w none rm) 3 58 [(2, .int r8), (0, .ref x0), (1, .ref x1)] [] m27
      refine v_goto (pc := 58) C 30 97 rfl (by decide) ?_
      cases g_s1' h
      exact v_vret (pc := 97) C 48 rfl hr
  · replace h := g_ifT c11 h
    refine v_aload_n (pc := 36) C 20 1 rfl rfl rfl ?_
    refine v_sipush (pc := 37) C 21 266 rfl (by decide) ?_
    refine v_putI (pc := 40) C 22 rfl lf_ScopeGraph_Tokens_28 (g_oB o1) rfl ?_
    refine v_topM (fun m29 em29 => ?_)
    replace h := g_nm h em29
    refine v_goto (pc := 43) C 23 97 rfl (by decide) ?_
    cases g_s1' h
    exact v_vret (pc := 97) C 48 rfl hr
theorem c_X6_advance {l : Launch} {w : gW} {rm : gM} (hJ : gJok w) (hG : gJs w) {F : Nat} {x0 : Nat} {x1 : Nat} {m : gM} (h : f_X6_advance w.2.2.2.2.1 F x0 x1 m = some rm) : gMet l 7 yX6_advance cX6_advance 3 none w [.ref x0, .ref x1] m none rm :=
  gMet.of hJ mf_X6_advance dk_X6_advance (Nat.le_of_ble_eq_true rfl) (fun X _ C hr => tf_X6_advance (F := F) C hG hr h)
def b_X3_parse_84 (sh : List gS) (F : Nat) (k41 : Nat → Nat → Int32 → gM → Option (Int32 × gM)) (x0 : Nat) (x1 : Nat) (x3 : Int32) (y0 : Int32) (m : gM) : Option (Int32 × gM) :=
  if y0 = 0 then (g_if (oB sh x0 3) ((m.2.2 x0 0).bind (fun t3 => g_if (oB sh t3 6) (if (m.1 t3 0) = (266 : Int32) then (some (y0, m)) else (nm (x3 + Int32.ofInt 1) (fun v6 => k41 x0 x1 v6 m)))))) else (some (y0, m))
set_option maxRecDepth 100000 in
set_option maxHeartbeats 4000000 in
theorem tb_X3_parse_84 {X : gX} {w : gW} {rr : Int32} {rm : gM} (C : gC X w K_X3_parse 5 RX3 8) (hG : gJs w) (hr : X.2.2.2.2.2.2.2.2.1.sig.returnType = (some .int)) {F : Nat} {k41 : Nat → Nat → Int32 → gM → Option (Int32 × gM)} (hk41 : ∀ (z0 : Nat) (z1 : Nat) (z3 : Int32) (m : gM), k41 z0 z1 z3 m = some (rr, rm) → gV X w 0 0 (gR X w (some (.int rr)) rm) 5 41 [(0, .ref z0), (1, .ref z1), (3, .int z3)] [] m) {x0 : Nat} {x1 : Nat} {x3 : Int32} {y0 : Int32} {m : gM} (h : b_X3_parse_84 w.2.2.2.2.1 F k41 x0 x1 x3 y0 m = some (rr, rm)) : gV X w 0 0 (gR X w (some (.int rr)) rm) 5 84 [(0, .ref x0), (1, .ref x1), (3, .int x3)] [.int y0] m := by
  unfold b_X3_parse_84 at h
  refine v_istore (pc := 84) (lv' := [(4, .int y0), (0, .ref x0), (1, .ref x1), (3, .int x3)]) C 42 rfl (by decide) rfl ?_
  refine v_iload (pc := 86) C 43 0 rfl rfl ?_
  refine v_if_ne (pc := 88) C 44 104 rfl (by decide) (fun c1 => ?_) (fun c1 => ?_)
  · replace h := g_ifF c1 h
    refine v_iload (pc := 104) C 50 0 rfl rfl ?_
    obtain ⟨rfl, rfl⟩ := g_so h
    exact v_iret (pc := 106) C 51 rfl hr
  · replace h := g_ifT c1 h
    refine v_aload_n (pc := 91) C 45 1 rfl rfl rfl ?_
    obtain ⟨o2, h⟩ := g_okk h
    obtain ⟨t3, qt3, h⟩ := g_bd h
    refine v_getR (pc := 92) C 46 rfl lf_ScopeGraph_Reader_12 (g_oB o2) rfl qt3 ?_
    obtain ⟨o4, h⟩ := g_okk h
    refine v_getI (pc := 95) C 47 rfl lf_ScopeGraph_Reader_57.get (g_oB o4) rfl ?_
    refine v_sipush (pc := 98) C 48 266 rfl (by decide) ?_
    refine v_icmp_ne (pc := 101) C 49 107 rfl (by decide) (fun c5 => ?_) (fun c5 => ?_)
    · replace h := g_ifF c5 h
      refine v_iincN (pc := 107) C 52 3 (fun v6 => [(3, .int v6), (4, .int y0), (0, .ref x0), (1, .ref x1)]) rfl rfl (by decide) (fun _ => rfl) (fun v6 ev6 => ?_)
      replace h := g_nm h ev6
      refine v_goto (pc := 110) C 53 41 rfl (by decide) ?_
      refine v_sub [(0, .ref x0), (1, .ref x1), (3, .int v6)] [2, 3, 0] rfl ?_
      exact hk41 _ _ _ _ h
    · replace h := g_ifT c5 h
      refine v_iload (pc := 104) C 50 0 rfl rfl ?_
      obtain ⟨rfl, rfl⟩ := g_so h
      exact v_iret (pc := 106) C 51 rfl hr
def b_X3_parse_41 (sh : List gS) (F : Nat) (k41 : Nat → Nat → Int32 → gM → Option (Int32 × gM)) (x0 : Nat) (x1 : Nat) (x3 : Int32) (m : gM) : Option (Int32 × gM) :=
  if (4000 : Int32) < x3 then (some (2, m)) else (g_if (oB sh x0 3) ((m.2.2 x0 0).bind (fun t3 => g_if (oB sh t3 6) ((f_X6_advance sh F t3 x1 m).bind (fun m5 => (m5.2.2 x0 0).bind (fun t7 => g_if (oB sh t7 6) (if (m5.1 t7 0) = (267 : Int32) then (b_X3_parse_84 sh F k41 x0 x1 x3 1 m5) else ((m5.2.2 x0 0).bind (fun t10 => g_if (oB sh t10 6) ((f_X3_take sh F x0 (m5.1 t10 0) m5).bind (fun q14 => nm q14.1 (fun r13 => nm q14.2 (fun m12 => b_X3_parse_84 sh F k41 x0 x1 x3 r13 m12)))))))))))))
set_option maxRecDepth 100000 in
set_option maxHeartbeats 4000000 in
theorem tb_X3_parse_41 {X : gX} {w : gW} {rr : Int32} {rm : gM} (C : gC X w K_X3_parse 5 RX3 8) (hG : gJs w) (hr : X.2.2.2.2.2.2.2.2.1.sig.returnType = (some .int)) {F : Nat} {k41 : Nat → Nat → Int32 → gM → Option (Int32 × gM)} (hk41 : ∀ (z0 : Nat) (z1 : Nat) (z3 : Int32) (m : gM), k41 z0 z1 z3 m = some (rr, rm) → gV X w 0 0 (gR X w (some (.int rr)) rm) 5 41 [(0, .ref z0), (1, .ref z1), (3, .int z3)] [] m) {x0 : Nat} {x1 : Nat} {x3 : Int32} {m : gM} (h : b_X3_parse_41 w.2.2.2.2.1 F k41 x0 x1 x3 m = some (rr, rm)) : gV X w 0 0 (gR X w (some (.int rr)) rm) 5 41 [(0, .ref x0), (1, .ref x1), (3, .int x3)] [] m := by
  unfold b_X3_parse_41 at h
  refine v_iload_n (pc := 41) C 23 2 rfl rfl rfl ?_
  refine v_sipush (pc := 42) C 24 4000 rfl (by decide) ?_
  refine v_icmp_gt (pc := 45) C 25 113 rfl (by decide) (fun c1 => ?_) (fun c1 => ?_)
  · replace h := g_ifT c1 h
    refine v_iconst (pc := 113) C 54 2 rfl (by decide) ?_
    obtain ⟨rfl, rfl⟩ := g_so h
    exact v_iret (pc := 114) C 55 rfl hr
  · replace h := g_ifF c1 h
    refine v_aload_n (pc := 48) C 26 0 rfl rfl rfl ?_
    obtain ⟨o2, h⟩ := g_okk h
    obtain ⟨t3, qt3, h⟩ := g_bd h
    refine v_getR (pc := 49) C 27 rfl lf_ScopeGraph_Reader_12 (g_oB o2) rfl qt3 ?_
    refine v_aload_n (pc := 52) C 28 1 rfl rfl rfl ?_
    obtain ⟨o4, h⟩ := g_okk h
    obtain ⟨m5, qm5, h⟩ := g_bd h
    refine v_callV (pc := 53) C 29 rfl mf_X6_advance clX6 rfl im_X6_advance lm_ScopeGraph_Reader_53 (c_X6_advance C.2.2.2.2.2.2.2.2.2.2.2 hG qm5) (by decide) rfl (g_oB o4) (Nat.le_of_ble_eq_true rfl) ⟨Nat.zero_le _, Nat.zero_le _⟩ rfl ?_
    change gV X w 0 0 (gR X w (some (.int rr)) rm) 5 56 [(0, .ref x0), (1, .ref x1), (3, .int x3)] [] m5
    refine v_aload_n (pc := 56) C 30 0 rfl rfl rfl ?_
    obtain ⟨t7, qt7, h⟩ := g_bd h
    refine v_getR (pc := 57) C 31 rfl lf_ScopeGraph_Reader_12 (g_oB o2) rfl qt7 ?_
    obtain ⟨o8, h⟩ := g_okk h
    refine v_getI (pc := 60) C 32 rfl lf_ScopeGraph_Reader_57.get (g_oB o8) rfl ?_
    refine v_sipush (pc := 63) C 33 267 rfl (by decide) ?_
    refine v_icmp_ne (pc := 66) C 34 73 rfl (by decide) (fun c9 => ?_) (fun c9 => ?_)
    · replace h := g_ifF c9 h
      refine v_aload_n (pc := 73) C 37 0 rfl rfl rfl ?_
      refine v_aload_n (pc := 74) C 38 0 rfl rfl rfl ?_
      obtain ⟨t10, qt10, h⟩ := g_bd h
      refine v_getR (pc := 75) C 39 rfl lf_ScopeGraph_Reader_12 (g_oB o2) rfl qt10 ?_
      obtain ⟨o11, h⟩ := g_okk h
      refine v_getI (pc := 78) C 40 rfl lf_ScopeGraph_Reader_57.get (g_oB o11) rfl ?_
      obtain ⟨⟨r13, m12⟩, qm12, h⟩ := g_bd h
      replace h := g_nm (y := m12) (g_nm (y := r13) h rfl) rfl
      refine v_callV (pc := 81) C 41 rfl mf_X3_take clX3 rfl im_X3_take lm_ScopeGraph_Reader_60 (c_X3_take C.2.2.2.2.2.2.2.2.2.2.2 qm12) (by decide) rfl (g_oB o2) (Nat.le_of_ble_eq_true rfl) ⟨Nat.zero_le _, Nat.zero_le _⟩ rfl ?_
      change gV X w 0 0 (gR X w (some (.int rr)) rm) 5 84 [(0, .ref x0), (1, .ref x1), (3, .int x3)] [.int r13] m12
      refine v_sub [(0, .ref x0), (1, .ref x1), (3, .int x3)] [0, 1, 2] rfl ?_
      exact tb_X3_parse_84 (F := F) C hG hr hk41 h
    · replace h := g_ifT c9 h
      refine v_iconst (pc := 69) C 35 1 rfl (by decide) ?_
      refine v_goto (pc := 70) C 36 84 rfl (by decide) ?_
      refine v_sub [(0, .ref x0), (1, .ref x1), (3, .int x3)] [0, 1, 2] rfl ?_
      exact tb_X3_parse_84 (F := F) C hG hr hk41 h
def l_X3_parse_41 (sh : List gS) (F : Nat) : Nat → Nat → Nat → Int32 → gM → Option (Int32 × gM)
  | 0 => fun _ _ _ _ => none
  | n + 1 => fun x0 x1 x3 m => b_X3_parse_41 sh F (l_X3_parse_41 sh F n) x0 x1 x3 m
theorem tl_X3_parse_41 {X : gX} {w : gW} {rr : Int32} {rm : gM} (C : gC X w K_X3_parse 5 RX3 8) (hG : gJs w) (hr : X.2.2.2.2.2.2.2.2.1.sig.returnType = (some .int)) {F : Nat} : ∀ (n : Nat) (x0 : Nat) (x1 : Nat) (x3 : Int32) (m : gM), l_X3_parse_41 w.2.2.2.2.1 F n x0 x1 x3 m = some (rr, rm) → gV X w 0 0 (gR X w (some (.int rr)) rm) 5 41 [(0, .ref x0), (1, .ref x1), (3, .int x3)] [] m := by
  intro n
  induction n with
  | zero => intro x0 x1 x3 m h; cases h
  | succ n ih => intro x0 x1 x3 m h; exact tb_X3_parse_41 (F := F) C hG hr ih h
def f_X3_parse (sh : List gS) (F : Nat) (x0 : Nat) (x1 : Nat) (x2 : Nat) (m : gM) : Option (Int32 × gM) :=
  g_if (oB sh x0 3) (nm (gsR m x0 4 (some x2)) (fun m2 => (m2.2.2 x0 4).bind (fun t3 => g_if (oB sh t3 2) ((f_X2_empty sh F t3 m2).bind (fun m5 => (m5.2.2 x0 0).bind (fun t7 => g_if (oB sh t7 6) ((f_X6_begin sh F t7 m5).bind (fun m9 => nm (gsI m9 x0 5 0) (fun m11 => nm (gsI m11 x0 6 0) (fun m12 => nm (gsI m12 x0 7 0) (fun m13 => nm (gsI m13 x0 8 0) (fun m14 => l_X3_parse_41 sh F F x0 x1 0 m14))))))))))))
set_option maxRecDepth 100000 in
set_option maxHeartbeats 4000000 in
theorem tf_X3_parse {X : gX} {w : gW} {rr : Int32} {rm : gM} (C : gC X w K_X3_parse 5 RX3 8) (hG : gJs w) (hr : X.2.2.2.2.2.2.2.2.1.sig.returnType = (some .int)) {F : Nat} {x0 : Nat} {x1 : Nat} {x2 : Nat} {m : gM} (h : f_X3_parse w.2.2.2.2.1 F x0 x1 x2 m = some (rr, rm)) : gV X w 0 0 (gR X w (some (.int rr)) rm) 5 0 [(0, .ref x0), (1, .ref x1), (2, .ref x2)] [] m := by
  unfold f_X3_parse at h
  refine v_aload_n (pc := 0) C 0 0 rfl rfl rfl ?_
  refine v_aload_n (pc := 1) C 1 2 rfl rfl rfl ?_
  obtain ⟨o1, h⟩ := g_okk h
  refine v_putR (pc := 2) C 2 rfl lf_ScopeGraph_Reader_28 (g_oB o1) rfl ?_
  refine v_topM (fun m2 em2 => ?_)
  replace h := g_nm h em2
  refine v_aload_n (pc := 5) C 3 0 rfl rfl rfl ?_
  obtain ⟨t3, qt3, h⟩ := g_bd h
  refine v_getR (pc := 6) C 4 rfl lf_ScopeGraph_Reader_28.get (g_oB o1) rfl qt3 ?_
  obtain ⟨o4, h⟩ := g_okk h
  obtain ⟨m5, qm5, h⟩ := g_bd h
  refine v_callV (pc := 9) C 5 rfl mf_X2_empty clX2 rfl im_X2_empty lm_ScopeGraph_Reader_32 (c_X2_empty C.2.2.2.2.2.2.2.2.2.2.2 qm5) (by decide) rfl (g_oB o4) (Nat.le_of_ble_eq_true rfl) ⟨Nat.zero_le _, Nat.zero_le _⟩ rfl ?_
  change gV X w 0 0 (gR X w (some (.int rr)) rm) 5 12 [(0, .ref x0), (1, .ref x1), (2, .ref x2)] [] m5
  refine v_aload_n (pc := 12) C 6 0 rfl rfl rfl ?_
  obtain ⟨t7, qt7, h⟩ := g_bd h
  refine v_getR (pc := 13) C 7 rfl lf_ScopeGraph_Reader_12 (g_oB o1) rfl qt7 ?_
  obtain ⟨o8, h⟩ := g_okk h
  obtain ⟨m9, qm9, h⟩ := g_bd h
  refine v_callV (pc := 16) C 8 rfl mf_X6_begin clX6 rfl im_X6_begin lm_ScopeGraph_Reader_37 (c_X6_begin C.2.2.2.2.2.2.2.2.2.2.2 qm9) (by decide) rfl (g_oB o8) (Nat.le_of_ble_eq_true rfl) ⟨Nat.zero_le _, Nat.zero_le _⟩ rfl ?_
  change gV X w 0 0 (gR X w (some (.int rr)) rm) 5 19 [(0, .ref x0), (1, .ref x1), (2, .ref x2)] [] m9
  refine v_aload_n (pc := 19) C 9 0 rfl rfl rfl ?_
  refine v_iconst (pc := 20) C 10 0 rfl (by decide) ?_
  refine v_putI (pc := 21) C 11 rfl lf_ScopeGraph_Reader_40 (g_oB o1) rfl ?_
  refine v_topM (fun m11 em11 => ?_)
  replace h := g_nm h em11
  refine v_aload_n (pc := 24) C 12 0 rfl rfl rfl ?_
  refine v_iconst (pc := 25) C 13 0 rfl (by decide) ?_
  refine v_putI (pc := 26) C 14 rfl lf_ScopeGraph_Reader_44 (g_oB o1) rfl ?_
  refine v_topM (fun m12 em12 => ?_)
  replace h := g_nm h em12
  refine v_aload_n (pc := 29) C 15 0 rfl rfl rfl ?_
  refine v_iconst (pc := 30) C 16 0 rfl (by decide) ?_
  refine v_putI (pc := 31) C 17 rfl lf_ScopeGraph_Reader_47 (g_oB o1) rfl ?_
  refine v_topM (fun m13 em13 => ?_)
  replace h := g_nm h em13
  refine v_aload_n (pc := 34) C 18 0 rfl rfl rfl ?_
  refine v_iconst (pc := 35) C 19 0 rfl (by decide) ?_
  refine v_putI (pc := 36) C 20 rfl lf_ScopeGraph_Reader_50 (g_oB o1) rfl ?_
  refine v_topM (fun m14 em14 => ?_)
  replace h := g_nm h em14
  refine v_iconst (pc := 39) C 21 0 rfl (by decide) ?_
  refine v_istore_n (pc := 40) (lv' := [(3, .int 0), (0, .ref x0), (1, .ref x1), (2, .ref x2)]) C 22 rfl rfl (by decide) rfl ?_
  refine v_sub [(0, .ref x0), (1, .ref x1), (3, .int 0)] [1, 2, 0] rfl ?_
  exact tl_X3_parse_41 (F := F) C hG hr _ _ _ _ _ h
theorem c_X3_parse {l : Launch} {w : gW} {rr : Int32} {rm : gM} (hJ : gJok w) (hG : gJs w) {F : Nat} {x0 : Nat} {x1 : Nat} {x2 : Nat} {m : gM} (h : f_X3_parse w.2.2.2.2.1 F x0 x1 x2 m = some (rr, rm)) : gMet l 8 yX3_parse cX3_parse 5 (some .int) w [.ref x0, .ref x1, .ref x2] m (some (.int rr)) rm :=
  gMet.of hJ mf_X3_parse dk_X3_parse (Nat.le_of_ble_eq_true rfl) (fun X _ C hr => tf_X3_parse (F := F) C hG hr h)
def f_X6_areJustOneName (sh : List gS) (F : Nat) (x0 : Nat) (x1 : Nat) (m : gM) : Option (Int32 × gM) :=
  g_if (oB sh x0 6) ((f_X6_begin sh F x0 m).bind (fun m2 => (f_X6_advance sh F x0 x1 m2).bind (fun m4 => if (m4.1 x0 0) = (264 : Int32) then (if (m4.1 x0 1) = 0 then (g_if (oB sh x1 5) (if (m4.1 x0 2) = (m4.1 x1 1) then (some (1, m4)) else (some (0, m4)))) else (some (0, m4))) else (some (0, m4)))))
set_option maxRecDepth 100000 in
set_option maxHeartbeats 4000000 in
theorem tf_X6_areJustOneName {X : gX} {w : gW} {rr : Int32} {rm : gM} (C : gC X w K_X6_areJustOneName 2 RX6 8) (hG : gJs w) (hr : X.2.2.2.2.2.2.2.2.1.sig.returnType = (some .boolean)) {F : Nat} {x0 : Nat} {x1 : Nat} {m : gM} (h : f_X6_areJustOneName w.2.2.2.2.1 F x0 x1 m = some (rr, rm)) : gV X w 0 0 (gR X w (some (.int rr)) rm) 2 0 [(0, .ref x0), (1, .ref x1)] [] m := by
  unfold f_X6_areJustOneName at h
  refine v_aload_n (pc := 0) C 0 0 rfl rfl rfl ?_
  obtain ⟨o1, h⟩ := g_okk h
  obtain ⟨m2, qm2, h⟩ := g_bd h
  refine v_callV (pc := 1) C 1 rfl mf_X6_begin clX6 rfl im_X6_begin lm_ScopeGraph_Tokens_52 (c_X6_begin C.2.2.2.2.2.2.2.2.2.2.2 qm2) (by decide) rfl (g_oB o1) (Nat.le_of_ble_eq_true rfl) ⟨Nat.zero_le _, Nat.zero_le _⟩ rfl ?_
  change gV X w 0 0 (gR X w (some (.int rr)) rm) 2 4 [(0, .ref x0), (1, .ref x1)] [] m2
  refine v_aload_n (pc := 4) C 2 0 rfl rfl rfl ?_
  refine v_aload_n (pc := 5) C 3 1 rfl rfl rfl ?_
  obtain ⟨m4, qm4, h⟩ := g_bd h
  refine v_callV (pc := 6) C 4 rfl mf_X6_advance clX6 rfl im_X6_advance lm_ScopeGraph_Tokens_55 (c_X6_advance C.2.2.2.2.2.2.2.2.2.2.2 hG qm4) (by decide) rfl (g_oB o1) (Nat.le_of_ble_eq_true rfl) ⟨Nat.zero_le _, Nat.zero_le _⟩ rfl ?_
  change gV X w 0 0 (gR X w (some (.int rr)) rm) 2 9 [(0, .ref x0), (1, .ref x1)] [] m4
  refine v_aload_n (pc := 9) C 5 0 rfl rfl rfl ?_
  refine v_getI (pc := 10) C 6 rfl lf_ScopeGraph_Tokens_28.get (g_oB o1) rfl ?_
  refine v_sipush (pc := 13) C 7 264 rfl (by decide) ?_
  refine v_icmp_ne (pc := 16) C 8 41 rfl (by decide) (fun c6 => ?_) (fun c6 => ?_)
  · replace h := g_ifF c6 h
    refine v_iconst (pc := 41) C 19 0 rfl (by decide) ?_
    obtain ⟨rfl, rfl⟩ := g_so h
    exact v_zret (pc := 42) C 20 rfl hr (by decide)
  · replace h := g_ifT c6 h
    refine v_aload_n (pc := 19) C 9 0 rfl rfl rfl ?_
    refine v_getI (pc := 20) C 10 rfl lf_ScopeGraph_Tokens_9.get (g_oB o1) rfl ?_
    refine v_if_ne (pc := 23) C 11 41 rfl (by decide) (fun c7 => ?_) (fun c7 => ?_)
    · replace h := g_ifF c7 h
      refine v_iconst (pc := 41) C 19 0 rfl (by decide) ?_
      obtain ⟨rfl, rfl⟩ := g_so h
      exact v_zret (pc := 42) C 20 rfl hr (by decide)
    · replace h := g_ifT c7 h
      refine v_aload_n (pc := 26) C 12 0 rfl rfl rfl ?_
      refine v_getI (pc := 27) C 13 rfl lf_ScopeGraph_Tokens_15.get (g_oB o1) rfl ?_
      refine v_aload_n (pc := 30) C 14 1 rfl rfl rfl ?_
      obtain ⟨o8, h⟩ := g_okk h
      refine v_getI (pc := 31) C 15 rfl lf_ScopeGraph_Tokens_58.get (g_oB o8) rfl ?_
      refine v_icmp_ne (pc := 34) C 16 41 rfl (by decide) (fun c9 => ?_) (fun c9 => ?_)
      · replace h := g_ifF c9 h
        refine v_iconst (pc := 41) C 19 0 rfl (by decide) ?_
        obtain ⟨rfl, rfl⟩ := g_so h
        exact v_zret (pc := 42) C 20 rfl hr (by decide)
      · replace h := g_ifT c9 h
        refine v_iconst (pc := 37) C 17 1 rfl (by decide) ?_
        refine v_goto (pc := 38) C 18 42 rfl (by decide) ?_
        obtain ⟨rfl, rfl⟩ := g_so h
        exact v_zret (pc := 42) C 20 rfl hr (by decide)
theorem c_X6_areJustOneName {l : Launch} {w : gW} {rr : Int32} {rm : gM} (hJ : gJok w) (hG : gJs w) {F : Nat} {x0 : Nat} {x1 : Nat} {m : gM} (h : f_X6_areJustOneName w.2.2.2.2.1 F x0 x1 m = some (rr, rm)) : gMet l 8 yX6_areJustOneName cX6_areJustOneName 2 (some .boolean) w [.ref x0, .ref x1] m (some (.int rr)) rm :=
  gMet.of hJ mf_X6_areJustOneName dk_X6_areJustOneName (Nat.le_of_ble_eq_true rfl) (fun X _ C hr => tf_X6_areJustOneName (F := F) C hG hr h)
def b_X7_read_74 (sh : List gS) (F : Nat) (x0 : Nat) (m : gM) : Option (Int32 × gM) :=
  g_if (oB sh x0 7) ((m.2.2 x0 0).bind (fun t2 => g_if (oB sh t2 5) (nm (gsI m t2 1 0) (fun m4 => if (m4.1 x0 8) = 0 then ((m4.2.2 x0 2).bind (fun t11 => g_if (oB sh t11 2) (some (m4.1 t11 11, m4)))) else ((m4.2.2 x0 6).bind (fun t6 => g_if (oB sh t6 3) ((f_X3_place sh F t6 m4).bind (fun q10 => nm q10.1 (fun r9 => nm q10.2 (fun m8 => some (((-1) : Int32) - r9, m8)))))))))))
set_option maxRecDepth 100000 in
set_option maxHeartbeats 4000000 in
theorem tb_X7_read_74 {X : gX} {w : gW} {rr : Int32} {rm : gM} (C : gC X w K_X7_read 2 RX7 9) (hG : gJs w) (hr : X.2.2.2.2.2.2.2.2.1.sig.returnType = (some .int)) {F : Nat} {x0 : Nat} {m : gM} (h : b_X7_read_74 w.2.2.2.2.1 F x0 m = some (rr, rm)) : gV X w 0 0 (gR X w (some (.int rr)) rm) 2 74 [(0, .ref x0)] [] m := by
  unfold b_X7_read_74 at h
  refine v_aload_n (pc := 74) C 36 0 rfl rfl rfl ?_
  obtain ⟨o1, h⟩ := g_okk h
  obtain ⟨t2, qt2, h⟩ := g_bd h
  refine v_getR (pc := 75) C 37 rfl lf_ScopeGraph_10.get (g_oB o1) rfl qt2 ?_
  refine v_iconst (pc := 78) C 38 0 rfl (by decide) ?_
  obtain ⟨o3, h⟩ := g_okk h
  refine v_putI (pc := 79) C 39 rfl lf_ScopeGraph_61 (g_oB o3) rfl ?_
  refine v_topM (fun m4 em4 => ?_)
  replace h := g_nm h em4
  refine v_aload_n (pc := 82) C 40 0 rfl rfl rfl ?_
  refine v_getI (pc := 83) C 41 rfl lf_ScopeGraph_57.get (g_oB o1) rfl ?_
  refine v_if_ne (pc := 86) C 42 99 rfl (by decide) (fun c5 => ?_) (fun c5 => ?_)
  · replace h := g_ifF c5 h
    refine v_iconst (pc := 99) C 47 (-1) rfl (by decide) ?_
    refine v_aload_n (pc := 100) C 48 0 rfl rfl rfl ?_
    obtain ⟨t6, qt6, h⟩ := g_bd h
    refine v_getR (pc := 101) C 49 rfl lf_ScopeGraph_44 (g_oB o1) rfl qt6 ?_
    obtain ⟨o7, h⟩ := g_okk h
    obtain ⟨⟨r9, m8⟩, qm8, h⟩ := g_bd h
    replace h := g_nm (y := m8) (g_nm (y := r9) h rfl) rfl
    refine v_callV (pc := 104) C 50 rfl mf_X3_place clX3 rfl im_X3_place lm_ScopeGraph_96 (c_X3_place C.2.2.2.2.2.2.2.2.2.2.2 qm8) (by decide) rfl (g_oB o7) (Nat.le_of_ble_eq_true rfl) ⟨Nat.zero_le _, Nat.zero_le _⟩ rfl ?_
    change gV X w 0 0 (gR X w (some (.int rr)) rm) 2 107 [(0, .ref x0)] [.int r9, .int (-1)] m8
    refine v_isub (pc := 107) C 51 rfl ?_
    obtain ⟨rfl, rfl⟩ := g_so h
    exact v_iret (pc := 108) C 52 rfl hr
  · replace h := g_ifT c5 h
    refine v_aload_n (pc := 89) C 43 0 rfl rfl rfl ?_
    obtain ⟨t11, qt11, h⟩ := g_bd h
    refine v_getR (pc := 90) C 44 rfl lf_ScopeGraph_22.get (g_oB o1) rfl qt11 ?_
    obtain ⟨o12, h⟩ := g_okk h
    refine v_getI (pc := 93) C 45 rfl lf_ScopeGraph_93.get (g_oB o12) rfl ?_
    refine v_goto (pc := 96) C 46 108 rfl (by decide) ?_
    obtain ⟨rfl, rfl⟩ := g_so h
    exact v_iret (pc := 108) C 52 rfl hr
def f_X7_read (sh : List gS) (F : Nat) (x0 : Nat) (m : gM) : Option (Int32 × gM) :=
  g_if (oB sh x0 7) ((m.2.2 x0 6).bind (fun t2 => (m.2.2 x0 0).bind (fun t3 => (m.2.2 x0 3).bind (fun t4 => g_if (oB sh t2 3) ((f_X3_parse sh F t2 t3 t4 m).bind (fun q8 => nm q8.1 (fun r7 => nm q8.2 (fun m6 => nm (gsI m6 x0 8 r7) (fun m9 => if (m9.1 x0 8) = 0 then ((f_X7_swapTapes sh F x0 m9).bind (fun m11 => (m11.2.2 x0 2).bind (fun t13 => (m11.2.2 x0 3).bind (fun t14 => nm (gsR m11 x0 2 (some t14)) (fun m15 => nm (gsR m15 x0 3 (some t13)) (fun m16 => (m16.2.2 x0 4).bind (fun t17 => (m16.2.2 x0 2).bind (fun t18 => g_if (oB sh t17 1) ((f_X1_compareNames sh F t17 t18 m16).bind (fun m20 => (m20.2.2 x0 7).bind (fun t22 => (m20.2.2 x0 2).bind (fun t23 => (m20.2.2 x0 4).bind (fun t24 => g_if (oB sh t22 4) ((f_X4_resolve sh F t22 t23 t24 m20).bind (fun m26 => b_X7_read_74 sh F x0 m26))))))))))))))) else (b_X7_read_74 sh F x0 m9))))))))))
set_option maxRecDepth 100000 in
set_option maxHeartbeats 4000000 in
theorem tf_X7_read {X : gX} {w : gW} {rr : Int32} {rm : gM} (C : gC X w K_X7_read 2 RX7 9) (hG : gJs w) (hr : X.2.2.2.2.2.2.2.2.1.sig.returnType = (some .int)) {F : Nat} {x0 : Nat} {m : gM} (h : f_X7_read w.2.2.2.2.1 F x0 m = some (rr, rm)) : gV X w 0 0 (gR X w (some (.int rr)) rm) 2 0 [(0, .ref x0)] [] m := by
  unfold f_X7_read at h
  refine v_aload_n (pc := 0) C 0 0 rfl rfl rfl ?_
  refine v_aload_n (pc := 1) C 1 0 rfl rfl rfl ?_
  obtain ⟨o1, h⟩ := g_okk h
  obtain ⟨t2, qt2, h⟩ := g_bd h
  refine v_getR (pc := 2) C 2 rfl lf_ScopeGraph_44 (g_oB o1) rfl qt2 ?_
  refine v_aload_n (pc := 5) C 3 0 rfl rfl rfl ?_
  obtain ⟨t3, qt3, h⟩ := g_bd h
  refine v_getR (pc := 6) C 4 rfl lf_ScopeGraph_10.get (g_oB o1) rfl qt3 ?_
  refine v_aload_n (pc := 9) C 5 0 rfl rfl rfl ?_
  obtain ⟨t4, qt4, h⟩ := g_bd h
  refine v_getR (pc := 10) C 6 rfl lf_ScopeGraph_26.get (g_oB o1) rfl qt4 ?_
  obtain ⟨o5, h⟩ := g_okk h
  obtain ⟨⟨r7, m6⟩, qm6, h⟩ := g_bd h
  replace h := g_nm (y := m6) (g_nm (y := r7) h rfl) rfl
  refine v_callV (pc := 13) C 7 rfl mf_X3_parse clX3 rfl im_X3_parse lm_ScopeGraph_80 (c_X3_parse C.2.2.2.2.2.2.2.2.2.2.2 hG qm6) (by decide) rfl (g_oB o5) (Nat.le_of_ble_eq_true rfl) ⟨Nat.zero_le _, Nat.zero_le _⟩ rfl ?_
  change gV X w 0 0 (gR X w (some (.int rr)) rm) 2 16 [(0, .ref x0)] [.int r7, .ref x0] m6
  refine v_putI (pc := 16) C 8 rfl lf_ScopeGraph_57 (g_oB o1) rfl ?_
  refine v_topM (fun m9 em9 => ?_)
  replace h := g_nm h em9
  refine v_aload_n (pc := 19) C 9 0 rfl rfl rfl ?_
  refine v_getI (pc := 20) C 10 rfl lf_ScopeGraph_57.get (g_oB o1) rfl ?_
  refine v_if_ne (pc := 23) C 11 74 rfl (by decide) (fun c10 => ?_) (fun c10 => ?_)
  · replace h := g_ifF c10 h
    refine v_sub [(0, .ref x0)] [0] rfl ?_
    exact tb_X7_read_74 (F := F) C hG hr h
  · replace h := g_ifT c10 h
    refine v_aload_n (pc := 26) C 12 0 rfl rfl rfl ?_
    obtain ⟨m11, qm11, h⟩ := g_bd h
    refine v_callV (pc := 27) C 13 rfl mf_X7_swapTapes clX7 rfl im_X7_swapTapes lm_ScopeGraph_84 (c_X7_swapTapes C.2.2.2.2.2.2.2.2.2.2.2 qm11) (by decide) rfl (g_oB o1) (Nat.le_of_ble_eq_true rfl) ⟨Nat.zero_le _, Nat.zero_le _⟩ rfl ?_
    change gV X w 0 0 (gR X w (some (.int rr)) rm) 2 30 [(0, .ref x0)] [] m11
    refine v_aload_n (pc := 30) C 14 0 rfl rfl rfl ?_
    obtain ⟨t13, qt13, h⟩ := g_bd h
    refine v_getR (pc := 31) C 15 rfl lf_ScopeGraph_22.get (g_oB o1) rfl qt13 ?_
    refine v_astore_n (pc := 34) (lv' := [(1, .ref t13), (0, .ref x0)]) C 16 rfl rfl (by decide) rfl ?_
    refine v_aload_n (pc := 35) C 17 1 rfl rfl rfl ?_
    refine v_aload_n (pc := 36) C 18 1 rfl rfl rfl ?_
    obtain ⟨t14, qt14, h⟩ := g_bd h
    refine v_getR (pc := 37) C 19 rfl lf_ScopeGraph_26.get (g_oB o1) rfl qt14 ?_
    refine v_putR (pc := 40) C 20 rfl lf_ScopeGraph_22 (g_oB o1) rfl ?_
    refine v_topM (fun m15 em15 => ?_)
    replace h := g_nm h em15
    refine v_aload_n (pc := 43) C 21 1 rfl rfl rfl ?_
    refine v_aload_n (pc := 44) C 22 0 rfl rfl rfl ?_
    refine v_putR (pc := 45) C 23 rfl lf_ScopeGraph_26 (g_oB o1) rfl ?_
    refine v_topM (fun m16 em16 => ?_)
    replace h := g_nm h em16
    refine v_aload_n (pc := 48) C 24 1 rfl rfl rfl ?_
    obtain ⟨t17, qt17, h⟩ := g_bd h
    refine v_getR (pc := 49) C 25 rfl lf_ScopeGraph_32.get (g_oB o1) rfl qt17 ?_
    refine v_aload_n (pc := 52) C 26 1 rfl rfl rfl ?_
    obtain ⟨t18, qt18, h⟩ := g_bd h
    refine v_getR (pc := 53) C 27 rfl lf_ScopeGraph_22.get (g_oB o1) rfl qt18 ?_
    obtain ⟨o19, h⟩ := g_okk h
    obtain ⟨m20, qm20, h⟩ := g_bd h
    refine v_callV (pc := 56) C 28 rfl mf_X1_compareNames clX1 rfl im_X1_compareNames lm_ScopeGraph_87 (c_X1_compareNames C.2.2.2.2.2.2.2.2.2.2.2 qm20) (by decide) rfl (g_oB o19) (Nat.le_of_ble_eq_true rfl) ⟨Nat.zero_le _, Nat.zero_le _⟩ rfl ?_
    change gV X w 0 0 (gR X w (some (.int rr)) rm) 2 59 [(1, .ref t13), (0, .ref x0)] [] m20
    refine v_aload_n (pc := 59) C 29 1 rfl rfl rfl ?_
    obtain ⟨t22, qt22, h⟩ := g_bd h
    refine v_getR (pc := 60) C 30 rfl lf_ScopeGraph_53 (g_oB o1) rfl qt22 ?_
    refine v_aload_n (pc := 63) C 31 1 rfl rfl rfl ?_
    obtain ⟨t23, qt23, h⟩ := g_bd h
    refine v_getR (pc := 64) C 32 rfl lf_ScopeGraph_22.get (g_oB o1) rfl qt23 ?_
    refine v_aload_n (pc := 67) C 33 1 rfl rfl rfl ?_
    obtain ⟨t24, qt24, h⟩ := g_bd h
    refine v_getR (pc := 68) C 34 rfl lf_ScopeGraph_32.get (g_oB o1) rfl qt24 ?_
    obtain ⟨o25, h⟩ := g_okk h
    obtain ⟨m26, qm26, h⟩ := g_bd h
    refine v_callV (pc := 71) C 35 rfl mf_X4_resolve clX4 rfl im_X4_resolve lm_ScopeGraph_90 (c_X4_resolve C.2.2.2.2.2.2.2.2.2.2.2 qm26) (by decide) rfl (g_oB o25) (Nat.le_of_ble_eq_true rfl) ⟨Nat.zero_le _, Nat.zero_le _⟩ rfl ?_
    change gV X w 0 0 (gR X w (some (.int rr)) rm) 2 74 [(1, .ref t13), (0, .ref x0)] [] m26
    refine v_sub [(0, .ref x0)] [1] rfl ?_
    exact tb_X7_read_74 (F := F) C hG hr h
theorem c_X7_read {l : Launch} {w : gW} {rr : Int32} {rm : gM} (hJ : gJok w) (hG : gJs w) {F : Nat} {x0 : Nat} {m : gM} (h : f_X7_read w.2.2.2.2.1 F x0 m = some (rr, rm)) : gMet l 9 yX7_read cX7_read 2 (some .int) w [.ref x0] m (some (.int rr)) rm :=
  gMet.of hJ mf_X7_read dk_X7_read (Nat.le_of_ble_eq_true rfl) (fun X _ C hr => tf_X7_read (F := F) C hG hr h)
