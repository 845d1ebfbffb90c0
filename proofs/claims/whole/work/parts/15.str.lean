def K_J3_checkIndex_8e157 : gK := [(0, .iload_n 0, 1), (1, .ifCond .lt 8, 3), (4, .iload_n 0, 1), (5, .iload_n 1, 1), (6, .if_icmp .lt 10, 3), (9, .aload_n 2, 1), (10, .iload_n 0, 1), (11, .iload_n 1, 1), (12, .invokestatic 95, 3), (15, .athrow, 1), (16, .iload_n 0, 1), (17, .ireturn, 1)]
theorem dk_J3_checkIndex_8e157 : ∀ q ∈ K_J3_checkIndex_8e157, decode cJ3_checkIndex_8e157 q.1 = .ok q.2 := by decide +kernel
theorem mf_J3_checkIndex_8e157 : gMf yJ3_checkIndex_8e157 cJ3_checkIndex_8e157 3 (some .int) 3 := ⟨g_tb 455 (by decide +kernel) (by decide +kernel), g_tb 93 (by decide +kernel) rfl, by decide +kernel, by decide +kernel, by decide +kernel, by decide +kernel, by decide⟩
theorem sm_J3_checkIndex_8e157 : Cond.static yJ3_checkIndex_8e157 ∈ gTb := g_tb 454 (by decide +kernel) rfl
def K_J0_checkIndex_df160 : gK := [(0, .iload_n 0, 1), (1, .iload_n 1, 1), (2, .getstatic 1053, 3), (5, .invokestatic 1059, 3), (8, .pop, 1), (9, .return_, 1)]
theorem dk_J0_checkIndex_df160 : ∀ q ∈ K_J0_checkIndex_df160, decode cJ0_checkIndex_df160 q.1 = .ok q.2 := by decide +kernel
theorem mf_J0_checkIndex_df160 : gMf yJ0_checkIndex_df160 cJ0_checkIndex_df160 2 none 2 := ⟨g_tb 450 (by decide +kernel) (by decide +kernel), g_tb 91 (by decide +kernel) rfl, by decide +kernel, by decide +kernel, by decide +kernel, by decide +kernel, by decide⟩
theorem sm_J0_checkIndex_df160 : Cond.static yJ0_checkIndex_df160 ∈ gTb := g_tb 449 (by decide +kernel) rfl
def K_J0_length_8abf5 : gK := [(0, .aload_n 0, 1), (1, .getfield 9, 3), (4, .arraylength, 1), (5, .aload_n 0, 1), (6, .invokevirtual 335, 3), (9, .ishr, 1), (10, .ireturn, 1)]
theorem dk_J0_length_8abf5 : ∀ q ∈ K_J0_length_8abf5, decode cJ0_length_8abf5 q.1 = .ok q.2 := by decide +kernel
theorem mf_J0_length_8abf5 : gMf yJ0_length_8abf5 cJ0_length_8abf5 1 (some .int) 0 := ⟨g_tb 495 (by decide +kernel) (by decide +kernel), g_tb 91 (by decide +kernel) rfl, by decide +kernel, by decide +kernel, by decide +kernel, by decide +kernel, by decide⟩
theorem im_J0_length_8abf5 : Cond.instanceMethod yJ0_length_8abf5 ∈ gTb ∧ Cond.selects yJ0_length_8abf5.cls yJ0_length_8abf5 yJ0_length_8abf5 ∈ gTb := ⟨g_tb 493 (by decide +kernel) rfl, g_tb 494 (by decide +kernel) rfl⟩
def K_J0_coder_7d493 : gK := [(0, .getstatic 38, 3), (3, .ifCond .eq 10, 3), (6, .aload_n 0, 1), (7, .getfield 15, 3), (10, .goto 4, 3), (13, .iconst 1, 1), (14, .ireturn, 1)]
theorem dk_J0_coder_7d493 : ∀ q ∈ K_J0_coder_7d493, decode cJ0_coder_7d493 q.1 = .ok q.2 := by decide +kernel
theorem mf_J0_coder_7d493 : gMf yJ0_coder_7d493 cJ0_coder_7d493 1 (some .byte) 0 := ⟨g_tb 499 (by decide +kernel) (by decide +kernel), g_tb 91 (by decide +kernel) rfl, by decide +kernel, by decide +kernel, by decide +kernel, by decide +kernel, by decide⟩
theorem im_J0_coder_7d493 : Cond.instanceMethod yJ0_coder_7d493 ∈ gTb ∧ Cond.selects yJ0_coder_7d493.cls yJ0_coder_7d493 yJ0_coder_7d493 ∈ gTb := ⟨g_tb 497 (by decide +kernel) rfl, g_tb 498 (by decide +kernel) rfl⟩
theorem ln_java_lang_String_335 : Cond.methodLink "java/lang/String" 335 yJ0_coder_7d493 ∈ gTb ∨ ∃ host, Cond.methodLinkNest "java/lang/String" 335 yJ0_coder_7d493 host ∈ gNb := Or.inl (g_tb 496 (by decide +kernel) rfl)
theorem ln_java_lang_String_505 : Cond.methodLink "java/lang/String" 505 yJ0_length_8abf5 ∈ gTb ∨ ∃ host, Cond.methodLinkNest "java/lang/String" 505 yJ0_length_8abf5 host ∈ gNb := Or.inl (g_tb 492 (by decide +kernel) rfl)
theorem ln_java_lang_String_1059 : Cond.methodLink "java/lang/String" 1059 yJ3_checkIndex_8e157 ∈ gTb ∨ ∃ host, Cond.methodLinkNest "java/lang/String" 1059 yJ3_checkIndex_8e157 host ∈ gNb := Or.inl (g_tb 453 (by decide +kernel) rfl)
theorem ln_java_lang_StringLatin1_9 : Cond.methodLink "java/lang/StringLatin1" 9 yJ0_checkIndex_df160 ∈ gTb ∨ ∃ host, Cond.methodLinkNest "java/lang/StringLatin1" 9 yJ0_checkIndex_df160 host ∈ gNb := Or.inl (g_tb 448 (by decide +kernel) rfl)
theorem ln_java_lang_String_492 : Cond.methodLink "java/lang/String" 492 yJ0_isLatin1_aae02 ∈ gTb ∨ ∃ host, Cond.methodLinkNest "java/lang/String" 492 yJ0_isLatin1_aae02 host ∈ gNb := Or.inl (g_tb 439 (by decide +kernel) rfl)
theorem ln_java_lang_String_495 : Cond.methodLink "java/lang/String" 495 yJ1_charAt_3b067 ∈ gTb ∨ ∃ host, Cond.methodLinkNest "java/lang/String" 495 yJ1_charAt_3b067 host ∈ gNb := Or.inl (g_tb 445 (by decide +kernel) rfl)
theorem ln_java_lang_String_633 : Cond.methodLink "java/lang/String" 633 yJ0_indexOf_7cf53 ∈ gTb ∨ ∃ host, Cond.methodLinkNest "java/lang/String" 633 yJ0_indexOf_7cf53 host ∈ gNb := Or.inl (g_tb 488 (by decide +kernel) rfl)
theorem ln_java_lang_String_637 : Cond.methodLink "java/lang/String" 637 yJ1_indexOf_4cfef ∈ gTb ∨ ∃ host, Cond.methodLinkNest "java/lang/String" 637 yJ1_indexOf_4cfef host ∈ gNb := Or.inl (g_tb 500 (by decide +kernel) rfl)
theorem ln_java_lang_StringLatin1_88 : Cond.methodLink "java/lang/StringLatin1" 88 yJ1_canEncode_9a6ad ∈ gTb ∨ ∃ host, Cond.methodLinkNest "java/lang/StringLatin1" 88 yJ1_canEncode_9a6ad host ∈ gNb := Or.inl (g_tb 503 (by decide +kernel) rfl)
theorem ln_java_lang_StringLatin1_95 : Cond.methodLink "java/lang/StringLatin1" 95 yJ1_indexOfChar_4cfef ∈ gTb ∨ ∃ host, Cond.methodLinkNest "java/lang/StringLatin1" 95 yJ1_indexOfChar_4cfef host ∈ gNb := Or.inl (g_tb 512 (by decide +kernel) rfl)
def sLen : List Nat := [56, 9]
def sByt : List (List Int32) := [[109, 111, 100, 117, 108, 101, 32, 105, 109, 112, 111, 114, 116, 32, 100, 101, 102, 32, 32, 32, 32, 102, 117, 110, 32, 32, 32, 32, 108, 101, 116, 32, 32, 32, 32, 114, 101, 99, 32, 32, 32, 32, 112, 97, 114, 32, 32, 32, 32, 105, 110, 32, 32, 32, 32, 32], [123, 125, 40, 41, 61, 43, 46, 44, 59]]
def isS (k : Nat) : Bool := decide (1000000 ≤ k) && decide (k < 1000002)
def isA (k : Nat) : Bool := decide (1000100 ≤ k) && decide (k < 1000102)
def sL (k : Nat) : Nat := sLen.getD (k - 1000100) 0
def sB (k j : Nat) : Int32 := (sByt.getD (k - 1000100) []).getD j 0
abbrev dFm : String := "Ljava/util/function/BiFunction;"
/-- what the start says of the String constants (numbers 1000000 and on; their bytes 1000100 and on) and of two statics -/
def gStr (w : gW) (U : State) : Prop := vk_S 2 sLen sByt (fun i => w.2.2.1 (1000000 + i)) (fun i => w.2.2.1 (1000100 + i)) (gA w) U U.heap ∧ va_Z "java/lang/String" "COMPACT_STRINGS" "Z" (.int 1) (gA w) U U.heap ∧ (∃ v : Value, (v = .null ∨ v = .ref 1000200) ∧ va_Z "jdk/internal/util/Preconditions" "SIOOBE_FORMATTER" dFm (tv w.2.2.1 v) (gA w) U U.heap) ∧ vk_R RX6 82 "module import def    fun    let    rec    par    in     " (w.2.2.1 1000000) U ∧ vk_R RX6 45 "{}()=+.,;" (w.2.2.1 1000001) U ∧ vk_R RX7 66 "the tape would have more than 4000 bytes" (w.2.2.1 1000002) U ∧ vk_R RX7 77 "the tape has not so many bytes" (w.2.2.1 1000003) U ∧ vk_R RX7 119 "no such what" (w.2.2.1 1000004) U ∧ vk_R RX7 122 "no such scope" (w.2.2.1 1000005) U ∧ vk_R RX7 152 "no such declaration" (w.2.2.1 1000006) U ∧ vk_R RX7 170 "no such reference" (w.2.2.1 1000007) U ∧ vk_R RX7 184 "the reference means fewer declarations" (w.2.2.1 1000008) U ∧ vk_R RX7 217 "no such place" (w.2.2.1 1000009) U
def gJs (w : gW) : Prop := ∀ U, w.2.2.2.2.2 U → gStr w U
def cB (v : Int32) : Bool := decide ((v.toUInt32 % 65536).toInt32 = v)
def bB (v : Int32) : Bool := decide (v.toInt8.toInt32 = v)
theorem g_isS {k : Nat} (h : isS k = true) : ∃ i, i < 2 ∧ k = 1000000 + i := by
  simp only [isS, Bool.and_eq_true, decide_eq_true_eq] at h
  exact ⟨k - 1000000, by omega, by omega⟩
theorem g_isA {k : Nat} (h : isA k = true) : ∃ i, i < 2 ∧ k = 1000100 + i := by
  simp only [isA, Bool.and_eq_true, decide_eq_true_eq] at h
  exact ⟨k - 1000100, by omega, by omega⟩
theorem g_naC {v : Int32} (h : cB v = true) : narrow .char (.int v) = .int v := by
  simp only [cB, decide_eq_true_eq] at h
  rw [← h]
  exact pk_nc v
theorem g_naB {v : Int32} (h : bB v = true) : narrow .byte (.int v) = .int v := by
  simp only [bB, decide_eq_true_eq] at h
  rw [← h]
  exact pk_nb v
section GSTR
variable {X : gX} {w : gW} {K : gK} {kc ks nL pc d : Nat} {own : String} {Q : State → Prop} {lv : List (Nat × Value)} {st : List Value} {μ : gM}
theorem v_ldcS (C : gC X w K nL own d) (i : Nat) {idx k : Nat} {tx : String} (hd : K[i]? = some (pc, .ldc idx, 2)) (hR : vk_R own idx tx (w.2.2.1 k) X.2.2.2.2.1) (kk : gV X w kc ks Q nL (pc + 2) lv (.ref k :: st) μ) : gV X w kc ks Q nL pc lv st μ := fun H locs ls hP hD hS hl => va_ldcS C.1 rfl C.2.2.2.1 hR (g_at C i hd) (kk H locs ls hP hD hS hl)
theorem v_strV (C : gC X w K nL own d) (hG : gJs w) (i : Nat) {idx k : Nat} (hd : K[i]? = some (pc, .getfield idx, 3)) (hl0 : Cond.fieldLink own idx "java/lang/String" "value" "[B" ∈ gTb) (hk : isS k = true) (kk : gV X w kc ks Q nL (pc + 3) lv (.ref (k + 100) :: st) μ) : gV X w kc ks Q nL pc lv (.ref k :: st) μ := by
  intro H locs ls hP hD hS hl
  obtain ⟨j, hj, rfl⟩ := g_isS hk
  have h1 := ((hG _ C.2.2.2.2.2.2.2.2.2.2.1).1.1 j hj).2.2.1
  have e1 : 1000000 + j + 100 = 1000100 + j := by omega
  rw [e1] at kk
  exact vk_getf C.1 rfl h1 hS C.2.2.2.1 (C.2.2.2.2.1 _ hl0) (fun _ h => h) (g_at C i hd) (kk H locs ls hP hD hS hl)
theorem v_strC (C : gC X w K nL own d) (hG : gJs w) (i : Nat) {idx k : Nat} (hd : K[i]? = some (pc, .getfield idx, 3)) (hl0 : Cond.fieldLink own idx "java/lang/String" "coder" "B" ∈ gTb) (hk : isS k = true) (kk : gV X w kc ks Q nL (pc + 3) lv (.int 0 :: st) μ) : gV X w kc ks Q nL pc lv (.ref k :: st) μ := by
  intro H locs ls hP hD hS hl
  obtain ⟨j, hj, rfl⟩ := g_isS hk
  have h1 := ((hG _ C.2.2.2.2.2.2.2.2.2.2.1).1.1 j hj).2.1
  exact vk_getf C.1 rfl h1 hS C.2.2.2.1 (C.2.2.2.2.1 _ hl0) (fun _ h => h) (g_at C i hd) (kk H locs ls hP hD hS hl)
theorem v_gets (C : gC X w K nL own d) (i : Nat) {idx : Nat} {cl nf df : String} {v : Value} (hd : K[i]? = some (pc, .getstatic idx, 3)) (hZ : va_Z cl nf df (tv w.2.2.1 v) (gA w) X.2.2.2.2.1 X.2.2.2.2.1.heap) (hl0 : Cond.fieldLink own idx cl nf df ∈ gTb) (kk : gV X w kc ks Q nL (pc + 3) lv (v :: st) μ) : gV X w kc ks Q nL pc lv st μ := fun H locs ls hP hD hS hl => va_gets C.1 rfl hZ hS C.2.2.2.1 (C.2.2.2.2.1 _ hl0) (fun _ h => h) (g_at C i hd) (kk H locs ls hP hD hS hl)
theorem v_slen (C : gC X w K nL own d) (hG : gJs w) (i : Nat) {k : Nat} (hd : K[i]? = some (pc, .arraylength, 1)) (hk : isA k = true) (kk : gV X w kc ks Q nL (pc + 1) lv (.int (Int32.ofNat (sL k)) :: st) μ) : gV X w kc ks Q nL pc lv (.ref k :: st) μ := by
  intro H locs ls hP hD hS hl
  obtain ⟨j, hj, rfl⟩ := g_isA hk
  have h1 := ((hG _ C.2.2.2.2.2.2.2.2.2.2.1).1.1 j hj).2.2.2
  have e1 : sL (1000100 + j) = sLen.getD j 0 := by simp [sL]
  rw [e1] at kk
  exact va_tlen C.1 rfl h1 hS rfl (g_at C i hd) (kk H locs ls hP hD hS hl)
theorem v_sbald (C : gC X w K nL own d) (hG : gJs w) (i : Nat) {k : Nat} {x : Int32} (hd : K[i]? = some (pc, .baload, 1)) (hk : isA k = true) (hin : inB x (sL k) = true) (kk : gV X w kc ks Q nL (pc + 1) lv (.int (sB k x.toNatClampNeg) :: st) μ) : gV X w kc ks Q nL pc lv (.int x :: .ref k :: st) μ := by
  intro H locs ls hP hD hS hl
  obtain ⟨j, hj, rfl⟩ := g_isA hk
  have h1 := ((hG _ C.2.2.2.2.2.2.2.2.2.2.1).1.1 j hj).2.2.2
  have e1 : sL (1000100 + j) = sLen.getD j 0 := by simp [sL]
  have e2 : ∀ z, sB (1000100 + j) z = (sByt.getD j []).getD z 0 := by intro z; simp [sB]
  rw [e1] at hin
  rw [e2] at kk
  exact va_tb C.1 rfl h1 hS (g_inB hin) rfl (g_at C i hd) (kk H locs ls hP hD hS hl)
theorem v_mmax (C : gC X w K nL own d) (i : Nat) {idx : Nat} {x y : Int32} (hd : K[i]? = some (pc, .invokestatic idx, 3)) (hl0 : Cond.methodLink own idx Lib.Math.max.name ∈ gTb) (hd1 : 1 ≤ d) (hst : (st.map fun v => v.category).sum ≤ 8) (hroom : kc ≤ X.2.2.2.1.cells ∧ ks ≤ X.2.2.2.1.slots) (kk : gV X w kc ks Q nL (pc + 3) lv (.int (if x < y then y else x) :: st) μ) : gV X w kc ks Q nL pc lv (.int y :: .int x :: st) μ := by
  intro H locs ls hP hD hS hl
  have a1 := C.2.2.2.2.2.2.2.2.1
  have a2 := C.2.2.2.2.2.2.2.2.2.1
  exact va_mmax C.1 rfl (C.2.2.1.trans hl.1.symm) C.2.2.2.1 (C.2.2.2.2.1 _ hl0) (C.2.2.2.2.1 _ (g_tb 507 (by decide +kernel) rfl)) (C.2.2.2.2.1 _ (g_tb 95 (by decide +kernel) rfl)) (C.2.2.2.2.1 _ (g_tb 508 (by decide +kernel) (by decide +kernel))) (by omega) (by rw [g_lenmap]; omega) hroom.1 hroom.2 (g_at C i hd) (kk H locs ls hP hD hS hl)
theorem v_mmin (C : gC X w K nL own d) (i : Nat) {idx : Nat} {x y : Int32} (hd : K[i]? = some (pc, .invokestatic idx, 3)) (hl0 : Cond.methodLink own idx Lib.Math.min.name ∈ gTb) (hd1 : 1 ≤ d) (hst : (st.map fun v => v.category).sum ≤ 8) (hroom : kc ≤ X.2.2.2.1.cells ∧ ks ≤ X.2.2.2.1.slots) (kk : gV X w kc ks Q nL (pc + 3) lv (.int (if y < x then y else x) :: st) μ) : gV X w kc ks Q nL pc lv (.int y :: .int x :: st) μ := by
  intro H locs ls hP hD hS hl
  have a1 := C.2.2.2.2.2.2.2.2.1
  have a2 := C.2.2.2.2.2.2.2.2.2.1
  exact va_mmin C.1 rfl (C.2.2.1.trans hl.1.symm) C.2.2.2.1 (C.2.2.2.2.1 _ hl0) (C.2.2.2.2.1 _ (g_tb 510 (by decide +kernel) rfl)) (C.2.2.2.2.1 _ (g_tb 95 (by decide +kernel) rfl)) (C.2.2.2.2.1 _ (g_tb 511 (by decide +kernel) (by decide +kernel))) (by omega) (by rw [g_lenmap]; omega) hroom.1 hroom.2 (g_at C i hd) (kk H locs ls hP hD hS hl)
theorem v_callT (C : gC X w K nL own d) (hG : gJs w) (i : Nat) {idx d2 n nL2 b : Nat} {y : MethodName} {cc2 : ByteArray} {ret2 : Option FieldType} {av : List Value} {r : Option Value} {μ' : gM} (hd : K[i]? = some (pc, .invokevirtual idx, 3))
    (F : gMf y cc2 nL2 ret2 n) (hC : y.cls = "java/lang/String") (hi : Cond.instanceMethod y ∈ gTb ∧ Cond.selects y.cls y y ∈ gTb) (hk : Cond.methodLink own idx y ∈ gTb ∨ ∃ host, Cond.methodLinkNest own idx y host ∈ gNb) (hM : gMet X.2.1 d2 y cc2 nL2 ret2 w (.ref b :: av) μ r μ') (hd2 : d2 < d) (hn : av.length = n) (hs : isS b = true) (hst : (st.map fun v => v.category).sum ≤ 8) (hroom : kc ≤ X.2.2.2.1.cells ∧ ks ≤ X.2.2.2.1.slots)
    {st0 : List Value} (h0 : st0 = av.reverse ++ .ref b :: st) (kk : gV X w kc ks Q nL (pc + 3) lv (r.toList ++ st) μ') : gV X w kc ks Q nL pc lv st0 μ := by
  intro H locs ls hP hD hS hl
  subst h0
  obtain ⟨f1, f2, f3, f4, f5, f6, f7⟩ := F
  have hR : (g_rm d2).frames + 1 ≤ X.2.2.2.1.frames ∧ 8 + (nL2 + 11) + (g_rm d2).locals ≤ X.2.2.2.1.locals := by
    have a1 := C.2.2.2.2.2.2.2.2.1
    have a2 := C.2.2.2.2.2.2.2.2.2.1
    simp only [g_rm]
    omega
  have hrc : ∃ cell : Cell, H[w.2.2.1 b]? = some cell ∧ cell.vm.isStatics = false ∧ X.2.2.2.2.1.vm.findClass y.cls = some cell.cls := by
    obtain ⟨j, hj, rfl⟩ := g_isS hs
    rw [hC]
    exact vk_recv (i := j) (adK := fun i => w.2.2.1 (1000000 + i)) (hG _ C.2.2.2.2.2.2.2.2.2.2.1).1 hj hS
  have hp : PreV X.2.2.2.2.1 H y.cls (w.2.2.1 b) (gPc w (.ref b :: av) μ) (av.map (tv w.2.2.1)) := ⟨g_blind C.2.2.2.2.2.2.2.2.2.2.2, hrc, g_pre C hP hD hS⟩
  have hstack : (F0 X.2.2.2.2.2.1 pc ls ((av.reverse ++ .ref b :: st).map (tv w.2.2.1))).stack = (av.map (tv w.2.2.1)).reverse ++ .ref (w.2.2.1 b) :: st.map (tv w.2.2.1) := by
    simp [tv, List.map_reverse]
  have hW8 : 2 * (F0 X.2.2.2.2.2.1 pc ls ((av.reverse ++ .ref b :: st).map (tv w.2.2.1))).monitorRoom + ((st.map (tv w.2.2.1)).map fun v => v.category).sum ≤ 8 := lv_room (by rw [g_lenmap]; exact hst)
  rcases hk with hk | ⟨host, hk⟩
  · exact g_back (va_runV (C := y.cls) (b := w.2.2.1 b) (n := n) ⟨C.1, rfl, C.2.2.1, C.2.2.2.1, C.2.2.2.2.1⟩ hM ⟨callB_of n C.2.2.2.2.1 (gGood f1) rfl rfl rfl (C.2.2.2.2.1 _ f2) (C.2.2.2.2.1 _ hk) ⟨f3, f4, f5⟩ hR, C.2.2.2.2.1 _ hi.1, C.2.2.2.2.1 _ hi.2⟩ hp rfl (by rw [List.length_map]; exact hn) hl.1 hstack hW8 (g_at C i hd) hroom) hD hS hl kk
  · exact g_back (va_runVN (C := y.cls) (b := w.2.2.1 b) (n := n) ⟨C.1, rfl, C.2.2.1, C.2.2.2.1, C.2.2.2.2.1⟩ hM ⟨va_cnB n C.2.2.2.2.1 (gGood f1) rfl rfl rfl (C.2.2.2.2.2.1 _ hk) (C.2.2.2.2.1 _ f2) ⟨f3, f4, f5⟩ hR, C.2.2.2.2.1 _ hi.1, C.2.2.2.2.1 _ hi.2⟩ hp rfl (by rw [List.length_map]; exact hn) hl.1 hstack hW8 (g_at C i hd) hroom) hD hS hl kk
theorem v_nret (C : gC X w K nL own d) (i : Nat) {v : Int32} {ty : FieldType} (hd : K[i]? = some (pc, .ireturn, 1)) (hr : X.2.2.2.2.2.2.2.2.1.sig.returnType = some ty) (hn : narrow ty (.int v) = .int v) : gV X w 0 0 (gR X w (some (.int v)) μ) nL pc lv [.int v] μ := fun H locs ls hP hD hS hl =>
  W.zret (v := v) (ty := ty) C.1 rfl hr hn (fun t ht hW => ⟨rfl, by rw [ht]; exact hP, hS.F ht⟩) hS.2.2 (g_at C i hd) C.2.2.2.2.2.2.2.1
end GSTR
def f_J3_checkIndex_8e157 (sh : List gS) (F : Nat) (x0 x1 : Int32) (m : gM) : Option (Int32 × gM) := if x0 < 0 then none else if x0 < x1 then some (x0, m) else none
theorem c_J3_checkIndex_8e157 {l : Launch} {w : gW} {rr : Int32} {rm : gM} (hJ : gJok w) {F : Nat} {x0 x1 : Int32} {v : Value} (hv : v.category = 1) {m : gM} (h : f_J3_checkIndex_8e157 w.2.2.2.2.1 F x0 x1 m = some (rr, rm)) : gMet l 0 yJ3_checkIndex_8e157 cJ3_checkIndex_8e157 3 (some .int) w [.int x0, .int x1, v] m (some (.int rr)) rm := by
  refine gMet.of hJ mf_J3_checkIndex_8e157 dk_J3_checkIndex_8e157 ?_ (fun X _ C hr => ?_)
  · cases v <;> first | exact Nat.le_of_ble_eq_true rfl | cases hv
  · show gV X w 0 0 (gR X w (some (.int rr)) rm) 3 0 [(0, .int x0), (1, .int x1), (2, v)] [] m
    unfold f_J3_checkIndex_8e157 at h
    refine v_iload_n (pc := 0) C 0 0 rfl rfl rfl ?_
    refine v_if_lt (pc := 1) C 1 9 rfl (by decide) (fun c1 => ?_) (fun c1 => ?_)
    · replace h := g_ifT c1 h
      cases h
    · replace h := g_ifF c1 h
      refine v_iload_n (pc := 4) C 2 0 rfl rfl rfl ?_
      refine v_iload_n (pc := 5) C 3 1 rfl rfl rfl ?_
      refine v_icmp_lt (pc := 6) C 4 16 rfl (by decide) (fun c2 => ?_) (fun c2 => ?_)
      · replace h := g_ifT c2 h
        refine v_iload_n (pc := 16) C 10 0 rfl rfl rfl ?_
        obtain ⟨rfl, rfl⟩ := g_so h
        exact v_iret (pc := 17) C 11 rfl hr
      · replace h := g_ifF c2 h
        cases h
def f_J0_checkIndex_df160 (sh : List gS) (F : Nat) (x0 x1 : Int32) (m : gM) : Option gM := (f_J3_checkIndex_8e157 sh F x0 x1 m).bind (fun q => some q.2)
theorem c_J0_checkIndex_df160 {l : Launch} {w : gW} {rm : gM} (hJ : gJok w) (hG : gJs w) {F : Nat} {x0 x1 : Int32} {m : gM} (h : f_J0_checkIndex_df160 w.2.2.2.2.1 F x0 x1 m = some rm) : gMet l 1 yJ0_checkIndex_df160 cJ0_checkIndex_df160 2 none w [.int x0, .int x1] m none rm := by
  refine gMet.of hJ mf_J0_checkIndex_df160 dk_J0_checkIndex_df160 (Nat.le_of_ble_eq_true rfl) (fun X _ C hr => ?_)
  show gV X w 0 0 (gR X w none rm) 2 0 [(0, .int x0), (1, .int x1)] [] m
  unfold f_J0_checkIndex_df160 at h
  obtain ⟨⟨r1, m1⟩, q1, h⟩ := g_bd h
  obtain ⟨v, hv0, hZ⟩ := (hG _ C.2.2.2.2.2.2.2.2.2.2.1).2.2.1
  have hv : v.category = 1 := by rcases hv0 with rfl | rfl <;> rfl
  refine v_iload_n (pc := 0) C 0 0 rfl rfl rfl ?_
  refine v_iload_n (pc := 1) C 1 1 rfl rfl rfl ?_
  refine v_gets (pc := 2) C 2 (v := v) rfl hZ (g_tb 451 (by decide +kernel) rfl) ?_
  refine v_callS (pc := 5) (st := []) C 3 rfl mf_J3_checkIndex_8e157 sm_J3_checkIndex_8e157 ln_java_lang_String_1059 (c_J3_checkIndex_8e157 C.2.2.2.2.2.2.2.2.2.2.2 hv q1) (by decide) rfl (Nat.le_of_ble_eq_true rfl) ⟨Nat.zero_le _, Nat.zero_le _⟩ rfl ?_
  change gV X w 0 0 (gR X w none rm) 2 8 [(0, .int x0), (1, .int x1)] [.int r1] m1
  refine v_pop (pc := 8) C 4 rfl rfl ?_
  cases g_s1' h
  exact v_vret (pc := 9) C 5 rfl hr
