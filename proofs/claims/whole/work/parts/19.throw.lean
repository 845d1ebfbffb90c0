/-! THROWING METHODS: a contract with an answer or a throw -/
def g_isE : Cond → Bool
  | .declares _ => true
  | .castable _ _ => true
  | _ => false
def gEb : List Cond := lw_tbl.filter g_isE
theorem g_eb (i : Nat) {q : Cond} (h : lw_tbl[i]? = some q) (hg : g_isE q = true) : q ∈ gEb := List.mem_filter.mpr ⟨List.mem_of_getElem? h, hg⟩
theorem g_ewarm {s U : State} (hW : s.WarmedH U.vm) (h : ∀ q ∈ gEb, va_Nw q s) : ∀ q ∈ gEb, va_Nw q U := by
  intro q hq
  have h1 := (List.mem_filter.mp hq).2
  have h2 := h q hq
  cases q <;> first | exact va_Nw.warmD hW h2 | exact va_Nw.warmC hW h2 | (simp [g_isE] at h1)
theorem g_eon {w : Cond} (h : w ∈ gEb) : w.onTables = true := by
  have h1 := (List.mem_filter.mp h).2
  cases w <;> first | rfl | (simp [g_isE] at h1)
/-- what a throw needs of the start -/
def gExc (w : gW) (U : State) : Prop := vx_Zq Bundle.tN "UNASSIGNED_STACK" Bundle.steD (gA w) U U.heap ∧ vx_Zq Bundle.tN "SUPPRESSED_SENTINEL" Bundle.listD (gA w) U U.heap ∧ ∀ q ∈ gEb, va_Nw q U
def gJx (w : gW) : Prop := ∀ U, w.2.2.2.2.2 U → gExc w U
def g_rx (d : Nat) : Room := { frames := d, cells := 1, slots := 6, locals := 37 * d }
def gQx (w : gW) (o : Option (Option Value)) (μ' : gM) : Array Value → State → Outcome → State → Prop := fun a s oc t => ∃ r, o = some r ∧ gQ w r μ' a s oc t
def gXx (w : gW) (E : String) (o : Option (Option Value)) (μ' : gM) : String → State → State → Prop := fun E' s t => o = none ∧ E' = E ∧ va_P w.1 vwCl (gwl w μ') t.heap ∧ va_F (gA w) s t
def gMx (l : Launch) (d : Nat) (y : MethodName) (cc : ByteArray) (nL : Nat) (ret : Option FieldType) (w : gW) (av : List Value) (μ : gM) (E : String) (o : Option (Option Value)) (μ' : gM) : Prop :=
  vx_Met l y (.code y cc nL ret :: gTb) (g_rx d) (gPc w av μ) (gQx w o μ') (gXx w E o μ') 1 6 (gA w)
def gRx (X : gX) (w : gW) (E : String) (o : Option (Option Value)) (μ' : gM) : State → Prop := vx_MQ X.2.2.2.2.2.2.2.1 (gQx w o μ') (gXx w E o μ') X.2.2.2.2.2.2.1 X.2.2.2.2.1 1 6 (gA w)
abbrev g_sup : List String := ["java/lang/RuntimeException", "java/lang/Exception"]
/-- the words of a throw of class E by ScopeGraph -/
def gEw (ik ic : Nat) (E : String) : Prop := Bundle.fit E = true ∧ Cond.classLink RX7 ik E ∈ gTb ∧ Cond.initialized E ∈ gTb ∧ (∀ q ∈ vx_atS RX7 ic E g_sup, q ∈ gTb ∨ q ∈ gEb)
theorem g_vot {q : Cond} (h : q ∈ gTb ∨ q ∈ gEb) : vx_ot q = true := by
  unfold vx_ot
  rcases h with h | h
  · rw [(List.mem_filter.mp h).2, Bool.or_true]
  · rw [g_eon h, Bool.true_or]
section GTH
variable {X : gX} {w : gW} {K : gK} {nL pc d : Nat} {own : String} {lv : List (Nat × Value)} {st : List Value} {μ : gM} {E : String}
theorem v_xiret (C : gC X w K nL own d) (i : Nat) {v : Int32} (hd : K[i]? = some (pc, .ireturn, 1)) (hr : X.2.2.2.2.2.2.2.2.1.sig.returnType = some .int) : gV X w 0 0 (gRx X w E (some (some (.int v))) μ) nL pc lv [.int v] μ := fun H locs ls hP hD hS hl =>
  vx_ret (W.widen (k := 1) (n := 6) (by omega) (by omega) (W.iret (v := v) C.1 rfl hr (fun t ht hW => ⟨_, rfl, rfl, by rw [ht]; exact hP, hS.F ht⟩) hS.2.2 (g_at C i hd) C.2.2.2.2.2.2.2.1))
theorem v_xzret (C : gC X w K nL own d) (i : Nat) {v : Int32} (hd : K[i]? = some (pc, .ireturn, 1)) (hr : X.2.2.2.2.2.2.2.2.1.sig.returnType = some .boolean) (h01 : v = 0 ∨ v = 1) : gV X w 0 0 (gRx X w E (some (some (.int v))) μ) nL pc lv [.int v] μ := fun H locs ls hP hD hS hl =>
  vx_ret (W.widen (k := 1) (n := 6) (by omega) (by omega) (W.zret (v := v) (ty := .boolean) C.1 rfl hr (by rcases h01 with rfl | rfl <;> decide +kernel) (fun t ht hW => ⟨_, rfl, rfl, by rw [ht]; exact hP, hS.F ht⟩) hS.2.2 (g_at C i hd) C.2.2.2.2.2.2.2.1))
theorem v_xvret (C : gC X w K nL own d) (i : Nat) (hd : K[i]? = some (pc, .return_, 1)) (hr : X.2.2.2.2.2.2.2.2.1.sig.returnType = none) : gV X w 0 0 (gRx X w E (some none) μ) nL pc lv [] μ := fun H locs ls hP hD hS hl =>
  vx_ret (W.widen (k := 1) (n := 6) (by omega) (by omega) (W.vret C.1 rfl hr (fun t ht hW => ⟨_, rfl, rfl, by rw [ht]; exact hP, hS.F ht⟩) hS.2.2 (g_at C i hd) C.2.2.2.2.2.2.2.1))
theorem v_throw (C : gC X w K nL RX7 d) (hl0 : X.2.1.stackTraces = false) (hE : gJx w) (hT : ∀ x ∈ X.2.2.2.2.2.2.2.2.2.exceptionTable.toList, False) (hR : X.2.2.2.1 = g_rx d) (hd6 : 6 ≤ d) (i : Nat) {ik is ic k : Nat} {tx : String} (hw : gEw ik ic E) (hs : vk_R RX7 is tx (w.2.2.1 k) X.2.2.2.2.1)
    (d0 : K[i]? = some (pc, .new ik, 3)) (d1 : K[i + 1]? = some (pc + 3, .dup, 1)) (d2 : K[i + 2]? = some (pc + 4, .ldc is, 2)) (d3 : K[i + 3]? = some (pc + 6, .invokespecial ic, 3)) (d4 : K[i + 4]? = some (pc + 9, .athrow, 1)) (hst : (st.map fun v => v.category).sum ≤ 8) :
    gV X w 0 0 (gRx X w E none μ) nL pc lv st μ := by
  intro H locs ls hP hD hS hl
  obtain ⟨w1, w2, w3, w4⟩ := hw
  obtain ⟨e1, e2, e3⟩ := hE _ C.2.2.2.2.2.2.2.2.2.2.1
  refine vx_throwS (names := g_sup) C.1 rfl hl0 C.2.2.2.1 w1 (by decide) (C.2.2.2.2.1 _ w2) (C.2.2.2.2.1 _ w3) hs ?_ ?_ e1 e2 hS (hl.1.trans C.2.2.1.symm) (g_at C i d0) (g_at C (i + 1) d1) (g_at C (i + 2) d2) (g_at C (i + 3) d3) (g_at C (i + 4) d4) (fun x hx => (hT x hx).elim) ?_ ?_ ?_ ?_ C.2.2.2.2.2.2.2.1 ?_ hS.2.2 (by omega) (by omega)
  · intro q hq
    rcases w4 q hq with h | h
    · exact C.2.2.2.2.1 _ h
    · exact (e3 q h).use (g_eon h)
  · intro q hq
    rcases List.mem_cons.mp hq with rfl | hq
    · exact g_vot (Or.inl w2)
    · rcases List.mem_cons.mp hq with rfl | hq
      · exact g_vot (Or.inl w3)
      · exact g_vot (w4 q hq)
  · rw [hR]
    simp only [g_rx, g_sup, List.length_cons, List.length_nil]
    omega
  · rw [hR, g_lenmap]
    simp only [g_rx, g_sup, List.length_cons, List.length_nil]
    omega
  · rw [hR]
    exact Nat.le_refl _
  · rw [hR]
    exact Nat.le_refl _
  · intro t _ h1 h2
    refine ⟨rfl, rfl, fun k q hq => (hP k q hq).kept (h2 q.1 (hP k q hq).lt), ⟨Nat.le_trans hS.1 h1, fun q hq hn => ?_⟩⟩
    rw [h2 q (Nat.lt_of_lt_of_le hq hS.1)]
    exact hS.2.1 q hq hn
end GTH
theorem gMx.of {l : Launch} {d : Nat} {y : MethodName} {cc : ByteArray} {nL n : Nat} {ret : Option FieldType} {w : gW} {av : List Value} {μ : gM} {E : String} {o : Option (Option Value)} {μ' : gM} {K : gK} (hJ : gJok w) (F : gMf y cc nL ret n) (hK : ∀ q ∈ K, decode cc q.1 = .ok q.2) (hav : (lg_sl (av.map (tv w.2.2.1))).length ≤ nL)
    (body : ∀ X : gX, X.2.1 = l → gC X w K nL y.cls d → (∀ x ∈ X.2.2.2.2.2.2.2.2.2.exceptionTable.toList, False) → X.2.2.2.1 = g_rx d → X.2.2.2.2.2.2.2.2.1.sig.returnType = ret → gV X w 0 0 (gRx X w E o μ') nL 0 (lv_args 0 av) [] μ) : gMx l d y cc nL ret w av μ E o μ' := by
  refine vx_ofW (cc := cc) (maxL := nL) (ret := ret) F.2.2.2.2.2.1 rfl ?_
  intro p e s m args below meth c s1 B hml hT hv
  obtain ⟨rfl, hP, hD, hKk, hN, hJs⟩ := hv
  have hts := atoms_spec (ws := Cond.code y cc nL ret :: gTb) B.pre
  have hb := B.bytes
  have hX := body (p, l, e, (headSpec (Cond.code y cc nL ret :: gTb) (g_rx d)).room, s, m, (av.map (tv w.2.2.1)).toArray, below, meth, c) rfl ⟨B.exec, by rw [hb]; exact hK, hml, findClass_of_methodNamed B.named, fun q hq => hts q (List.mem_cons_of_mem _ hq), hN, hKk, B.notSynchronized, Nat.le_refl _, Nat.le_refl _, hJs, hJ⟩ hT rfl B.returns
  have hl := lv_entry (av.map (tv w.2.2.1)) (n := nL) hav
  rw [lg_entry_eq]
  have hla : lv_args 0 (av.map (tv w.2.2.1)) = (lv_args 0 av).map (tvp w.2.2.1) := by
    have key : ∀ (av : List Value) (i : Nat), lv_args i (av.map (tv w.2.2.1)) = (lv_args i av).map (tvp w.2.2.1) := by
      intro av
      induction av with
      | nil => intro i; rfl
      | cons v av ih =>
        intro i
        simp only [lv_args, List.map_cons, ih]
        cases v <;> rfl
    exact key av 0
  rw [hla] at hl
  exact hX s.heap [] _ hP hD va_S.rf hl
set_option maxRecDepth 100000 in
theorem ew_U : gEw 64 68 "java/lang/UnsupportedOperationException" := by
  refine ⟨by decide +kernel, g_tb 729 (by decide +kernel) rfl, ?_, ?_⟩
  · have h : ∃ i, lw_tbl[i]? = some (Cond.initialized "java/lang/UnsupportedOperationException") := List.getElem?_of_mem (by decide +kernel)
    obtain ⟨i, hi⟩ := h
    exact g_tb i hi rfl
  · have h : (vx_atS RX7 68 "java/lang/UnsupportedOperationException" g_sup).all (fun q => decide (q ∈ lw_tbl) && (goodWord q || g_isE q)) = true := by decide +kernel
    intro q hq
    have h1 := List.all_eq_true.mp h q hq
    simp only [Bool.and_eq_true, decide_eq_true_eq, Bool.or_eq_true] at h1
    rcases h1.2 with h2 | h2
    · exact Or.inl (List.mem_filter.mpr ⟨h1.1, h2⟩)
    · exact Or.inr (List.mem_filter.mpr ⟨h1.1, h2⟩)
set_option maxRecDepth 100000 in
theorem ew_A : gEw 75 79 "java/lang/IllegalArgumentException" := by
  refine ⟨by decide +kernel, g_tb 812 (by decide +kernel) rfl, ?_, ?_⟩
  · have h : ∃ i, lw_tbl[i]? = some (Cond.initialized "java/lang/IllegalArgumentException") := List.getElem?_of_mem (by decide +kernel)
    obtain ⟨i, hi⟩ := h
    exact g_tb i hi rfl
  · have h : (vx_atS RX7 79 "java/lang/IllegalArgumentException" g_sup).all (fun q => decide (q ∈ lw_tbl) && (goodWord q || g_isE q)) = true := by decide +kernel
    intro q hq
    have h1 := List.all_eq_true.mp h q hq
    simp only [Bool.and_eq_true, decide_eq_true_eq, Bool.or_eq_true] at h1
    rcases h1.2 with h2 | h2
    · exact Or.inl (List.mem_filter.mpr ⟨h1.1, h2⟩)
    · exact Or.inr (List.mem_filter.mpr ⟨h1.1, h2⟩)
set_option maxRecDepth 100000 in
theorem ew_I : gEw 117 121 "java/lang/IndexOutOfBoundsException" := by
  refine ⟨by decide +kernel, g_tb 845 (by decide +kernel) rfl, ?_, ?_⟩
  · have h : ∃ i, lw_tbl[i]? = some (Cond.initialized "java/lang/IndexOutOfBoundsException") := List.getElem?_of_mem (by decide +kernel)
    obtain ⟨i, hi⟩ := h
    exact g_tb i hi rfl
  · have h : (vx_atS RX7 121 "java/lang/IndexOutOfBoundsException" g_sup).all (fun q => decide (q ∈ lw_tbl) && (goodWord q || g_isE q)) = true := by decide +kernel
    intro q hq
    have h1 := List.all_eq_true.mp h q hq
    simp only [Bool.and_eq_true, decide_eq_true_eq, Bool.or_eq_true] at h1
    rcases h1.2 with h2 | h2
    · exact Or.inl (List.mem_filter.mpr ⟨h1.1, h2⟩)
    · exact Or.inr (List.mem_filter.mpr ⟨h1.1, h2⟩)
