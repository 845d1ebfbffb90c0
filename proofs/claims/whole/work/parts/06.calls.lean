/-! CONTRACTS: a method called on the arguments av over the memory μ returns r, and the memory is μ' then; it makes nothing -/
def g_rm (d : Nat) : Room := { frames := d, cells := 0, slots := 0, locals := 37 * d }
def gPc (w : gW) (av : List Value) (μ : gM) : Array Value → State → Prop := va_Pc (av.map (tv w.2.2.1)) (fun U => va_P w.1 vwCl (gwl w μ) U.heap ∧ va_D (gA w) (gwl w μ) ∧ va_K w.1 vwCl (g_tys w.2.1) U ∧ (∀ q ∈ gNb, va_Nw q U) ∧ w.2.2.2.2.2 U)
def gQ (w : gW) (r : Option Value) (μ' : gM) : Array Value → State → Outcome → State → Prop := fun _ s o t => o = .returned (r.map (tv w.2.2.1)) ∧ va_P w.1 vwCl (gwl w μ') t.heap ∧ va_F (gA w) s t
def gJok (w : gW) : Prop := ∀ u U : State, w.2.2.2.2.2 u → u.WarmedH U.vm → va_F (gA w) u U → w.2.2.2.2.2 U
def gMet (l : Launch) (d : Nat) (y : MethodName) (cc : ByteArray) (nL : Nat) (ret : Option FieldType) (w : gW) (av : List Value) (μ : gM) (r : Option Value) (μ' : gM) : Prop :=
  Met l y (.code y cc nL ret :: gTb) (g_rm d) (gPc w av μ) (gQ w r μ') 0 0 (gA w)
/-- a method's own words -/
def gMf (y : MethodName) (cc : ByteArray) (nL : Nat) (ret : Option FieldType) (n : Nat) : Prop := Cond.code y cc nL ret ∈ gTb ∧ Cond.initialized y.cls ∈ gTb ∧ y.cls ≠ "java/lang/invoke/MethodHandle" ∧ y.cls ≠ "java/lang/invoke/VarHandle" ∧ (parseMethodDescriptor y.desc).map (fun d => d.parameters.length) = some n ∧ plainName y.cls = true ∧ nL ≤ 18
theorem gGood {y : MethodName} {cc : ByteArray} {nL : Nat} {ret : Option FieldType} (h : Cond.code y cc nL ret ∈ gTb) : GoodIn gTb (.code y cc nL ret :: gTb) := by
  intro q hq
  have h1 : q ∈ gTb := by
    rcases List.mem_cons.mp hq with rfl | h1
    · exact h
    · exact h1
  exact ⟨h1, good_of_word (List.mem_filter.mp h1).2⟩
theorem g_blind {w : gW} {av : List Value} {μ : gM} (hJ : gJok w) : FrameBlind (gPc w av μ) := by
  intro a U g mk q
  obtain ⟨q0, q1, q2, q3, q4, q5⟩ := q
  exact ⟨q0, q1, q2, va_K.moved (u := U) (U := U.calling g mk a) (Vm.Alike.refl U.vm) q3, fun z hz => va_Nw.same (u := U) (U := U.calling g mk a) (g_nest hz) rfl (q4 z hz), hJ U _ q5 (State.WarmedH.refl U) ⟨Nat.le_refl _, fun _ _ _ => rfl⟩⟩
theorem g_lenmap {ad : Nat → Nat} {rest : List Value} : ((rest.map (tv ad)).map fun v => v.category).sum = (rest.map fun v => v.category).sum := by
  rw [List.map_map]
  congr 1
  apply List.map_congr_left
  intro v _
  exact tv_cat ad v
theorem g_nwarm {s U : State} (hW : s.WarmedH U.vm) (h : ∀ q ∈ gNb, va_Nw q s) : ∀ q ∈ gNb, va_Nw q U := by
  intro q hq
  have h1 := (List.mem_filter.mp hq).2
  have h2 := h q hq
  cases q <;> first | exact va_Nw.warmF hW h2 | exact va_Nw.warmM hW h2 | (simp [g_isN] at h1)
section GCALL
variable {X : gX} {w : gW} {K : gK} {kc ks nL pc d : Nat} {own : String} {Q : State → Prop} {lv lv' : List (Nat × Value)} {st : List Value} {μ : gM}
theorem g_pre (C : gC X w K nL own d) {av : List Value} {H : Heap} {locs : List Loc} (hP : va_P w.1 vwCl (gwl w μ) H) (hD : va_D (gA w) (gwl w μ)) (hS : va_S (gA w) X.2.2.2.2.1.heap H locs) : ∀ U : State, U.heap = H → X.2.2.2.2.1.WarmedH U.vm → gPc w av μ (av.map (tv w.2.2.1)).toArray U := by
  intro U hU hW
  exact ⟨rfl, by rw [hU]; exact hP, hD, va_K.moved hW.alike C.2.2.2.2.2.2.1, g_nwarm hW C.2.2.2.2.2.1, C.2.2.2.2.2.2.2.2.2.2.2 _ U C.2.2.2.2.2.2.2.2.2.2.1 hW (hS.F hU)⟩
/-- behind a call -/
theorem g_back {rest : List Value} {H : Heap} {locs : List Loc} {a : Array Value} {r : Option Value} {μ' : gM} {ls : Array Slot} {st0 : List Value} {mc ms : Nat}
    (hr : va_Run X.1 X.2.1 X.2.2.1 X.2.2.2.1 X.2.2.2.2.1 X.2.2.2.2.2.1 X.2.2.2.2.2.2.1 X.2.2.2.2.2.2.2.1 X.2.2.2.2.2.2.2.2.1 X.2.2.2.2.2.2.2.2.2 H locs kc ks mc ms (F0 X.2.2.2.2.2.1 pc ls st0) (rest.map (tv w.2.2.1)) (gQ w r μ' a) (gA w))
    (hD : va_D (gA w) (gwl w μ)) (hS : va_S (gA w) X.2.2.2.2.1.heap H locs) (hl : lv_has ls nL (lv.map (tvp w.2.2.1))) (kk : gV X w (kc + mc) (ks + ms) Q nL (pc + 3) lv (r.toList ++ rest) μ') :
    W X.1 X.2.1 X.2.2.1 X.2.2.2.1 X.2.2.2.2.1 X.2.2.2.2.2.1 X.2.2.2.2.2.2.1 X.2.2.2.2.2.2.2.1 X.2.2.2.2.2.2.2.2.1 X.2.2.2.2.2.2.2.2.2 H locs kc ks Q (F0 X.2.2.2.2.2.1 pc ls st0) := by
  intro T hT X1
  obtain ⟨v, s0, t, T', L, h0, X', hL, e1, e2, ⟨hv, hp, hz, hk⟩, hgo⟩ := hr T hT X1
  cases hv
  rw [h0] at hz hk
  have hD' : va_D (gA w) (gwl w μ') := by
    refine ⟨fun i j p q hi hj => ?_, fun k q hq => ?_⟩
    · have key : ∀ {m : gM} {i : Nat} {p : Nat × va_E}, (gwl w m)[i]? = some p → p.1 = w.2.2.1 i ∧ i < w.2.2.2.2.1.length := by
        intro m i p h
        have hlt : i < (gwl w m).length := (List.getElem?_eq_some_iff.mp h).1
        rw [gwl, g_wl_len] at hlt
        have h2 := g_wl_at (ad := w.2.2.1) (cA := w.2.1) (μ := m) (List.getElem?_eq_getElem hlt)
        rw [gwl, h2] at h
        cases h
        exact ⟨rfl, hlt⟩
      intro hpq
      obtain ⟨a1, a2⟩ := key hi
      obtain ⟨b1, b2⟩ := key hj
      exact hD.1 i j _ _ (g_wl_at (List.getElem?_eq_getElem a2)) (g_wl_at (List.getElem?_eq_getElem b2)) (by rw [a1, b1] at hpq; exact hpq)
    · have hlt : k < (gwl w μ').length := (List.getElem?_eq_some_iff.mp hq).1
      rw [gwl, g_wl_len] at hlt
      have h2 := g_wl_at (ad := w.2.2.1) (cA := w.2.1) (μ := μ') (List.getElem?_eq_getElem hlt)
      rw [gwl, h2] at hq
      cases hq
      exact hD.2 k (w.2.2.1 k, g_ce w.2.2.1 w.2.1 μ k _) (g_wl_at (List.getElem?_eq_getElem hlt))
  have hS' : va_S (gA w) X.2.2.2.2.1.heap T'.heap (locs ++ L) := ⟨Nat.le_trans hS.1 (by rw [e1]; exact hz), fun q h1 h2 => by rw [e1, hk q (Nat.lt_of_lt_of_le h1 hS.1) h2]; exact hS.2.1 q h1 h2, fun q hq => by
    rcases List.mem_append.mp hq with h | h
    · exact hS.2.2 q h
    · exact hL q h⟩
  have kk' := kk T'.heap (locs ++ L) ls (by rw [e1]; exact hp) hD' hS' hl
  have e3 : (r.toList ++ rest).map (tv w.2.2.1) = (r.map (tv w.2.2.1)).toList ++ rest.map (tv w.2.2.1) := by cases r <;> rfl
  rw [e3] at kk'
  obtain ⟨t2, a1, b1⟩ := kk' T' rfl X'
  exact ⟨t2, hgo t2 a1, b1⟩
theorem v_callV (C : gC X w K nL own d) (i : Nat) {idx d2 ci n nL2 b : Nat} {y : MethodName} {cc2 : ByteArray} {ret2 : Option FieldType} {av : List Value} {r : Option Value} {μ' : gM} {Cn : String} {T : u_T} {N : Nat} (hd : K[i]? = some (pc, .invokevirtual idx, 3))
    (F : gMf y cc2 nL2 ret2 n) (hcl : gCls ci Cn T N) (hC : y.cls = Cn) (hi : Cond.instanceMethod y ∈ gTb ∧ Cond.selects Cn y y ∈ gTb) (hk : Cond.methodLink own idx y ∈ gTb ∨ ∃ host, Cond.methodLinkNest own idx y host ∈ gNb) (hM : gMet X.2.1 d2 y cc2 nL2 ret2 w (.ref b :: av) μ r μ') (hd2 : d2 < d) (hn : av.length = n) (hs : w.2.2.2.2.1[b]? = some (.inl ci)) (hst : (st.map fun v => v.category).sum ≤ 8) (hroom : kc ≤ X.2.2.2.1.cells ∧ ks ≤ X.2.2.2.1.slots)
    {st0 : List Value} (h0 : st0 = av.reverse ++ .ref b :: st) (kk : gV X w kc ks Q nL (pc + 3) lv (r.toList ++ st) μ') : gV X w kc ks Q nL pc lv st0 μ := by
  intro H locs ls hP hD hS hl
  subst h0
  obtain ⟨f1, f2, f3, f4, f5, f6, f7⟩ := F
  obtain ⟨c1, -, -, -, -⟩ := hcl
  have hR : (g_rm d2).frames + 1 ≤ X.2.2.2.1.frames ∧ 8 + (nL2 + 11) + (g_rm d2).locals ≤ X.2.2.2.1.locals := by
    have a1 := C.2.2.2.2.2.2.2.2.1
    have a2 := C.2.2.2.2.2.2.2.2.2.1
    simp only [g_rm]
    omega
  have hp : PreV X.2.2.2.2.1 H Cn (w.2.2.1 b) (gPc w (.ref b :: av) μ) (av.map (tv w.2.2.1)) := ⟨g_blind C.2.2.2.2.2.2.2.2.2.2.2, va_recv (q0 := b) (q := (Cn, T, N)) C.2.2.2.2.2.2.1 hP c1 (g_wl_at hs), g_pre C hP hD hS⟩
  have hstack : (F0 X.2.2.2.2.2.1 pc ls ((av.reverse ++ .ref b :: st).map (tv w.2.2.1))).stack = (av.map (tv w.2.2.1)).reverse ++ .ref (w.2.2.1 b) :: st.map (tv w.2.2.1) := by
    simp [tv, List.map_reverse]
  have hW8 : 2 * (F0 X.2.2.2.2.2.1 pc ls ((av.reverse ++ .ref b :: st).map (tv w.2.2.1))).monitorRoom + ((st.map (tv w.2.2.1)).map fun v => v.category).sum ≤ 8 := lv_room (by rw [g_lenmap]; exact hst)
  rcases hk with hk | ⟨host, hk⟩
  · exact g_back (va_runV (C := Cn) (b := w.2.2.1 b) (n := n) ⟨C.1, rfl, C.2.2.1, C.2.2.2.1, C.2.2.2.2.1⟩ hM ⟨callB_of n C.2.2.2.2.1 (gGood f1) rfl rfl rfl (C.2.2.2.2.1 _ f2) (C.2.2.2.2.1 _ hk) ⟨f3, f4, f5⟩ hR, C.2.2.2.2.1 _ hi.1, C.2.2.2.2.1 _ hi.2⟩ hp rfl (by rw [List.length_map]; exact hn) hl.1 hstack hW8 (g_at C i hd) hroom) hD hS hl kk
  · exact g_back (va_runVN (C := Cn) (b := w.2.2.1 b) (n := n) ⟨C.1, rfl, C.2.2.1, C.2.2.2.1, C.2.2.2.2.1⟩ hM ⟨va_cnB n C.2.2.2.2.1 (gGood f1) rfl rfl rfl (C.2.2.2.2.2.1 _ hk) (C.2.2.2.2.1 _ f2) ⟨f3, f4, f5⟩ hR, C.2.2.2.2.1 _ hi.1, C.2.2.2.2.1 _ hi.2⟩ hp rfl (by rw [List.length_map]; exact hn) hl.1 hstack hW8 (g_at C i hd) hroom) hD hS hl kk
theorem v_callS (C : gC X w K nL own d) (i : Nat) {idx d2 n nL2 : Nat} {y : MethodName} {cc2 : ByteArray} {ret2 : Option FieldType} {av : List Value} {r : Option Value} {μ' : gM} (hd : K[i]? = some (pc, .invokestatic idx, 3))
    (F : gMf y cc2 nL2 ret2 n) (hi : Cond.static y ∈ gTb) (hk : Cond.methodLink own idx y ∈ gTb ∨ ∃ host, Cond.methodLinkNest own idx y host ∈ gNb) (hM : gMet X.2.1 d2 y cc2 nL2 ret2 w av μ r μ') (hd2 : d2 < d) (hn : av.length = n) (hst : (st.map fun v => v.category).sum ≤ 8) (hroom : kc ≤ X.2.2.2.1.cells ∧ ks ≤ X.2.2.2.1.slots)
    {st0 : List Value} (h0 : st0 = av.reverse ++ st) (kk : gV X w kc ks Q nL (pc + 3) lv (r.toList ++ st) μ') : gV X w kc ks Q nL pc lv st0 μ := by
  intro H locs ls hP hD hS hl
  subst h0
  obtain ⟨f1, f2, f3, f4, f5, f6, f7⟩ := F
  have hR : (g_rm d2).frames + 1 ≤ X.2.2.2.1.frames ∧ 8 + (nL2 + 11) + (g_rm d2).locals ≤ X.2.2.2.1.locals := by
    have a1 := C.2.2.2.2.2.2.2.2.1
    have a2 := C.2.2.2.2.2.2.2.2.2.1
    simp only [g_rm]
    omega
  have hp : PreS X.2.2.2.2.1 H (gPc w av μ) (av.map (tv w.2.2.1)) := ⟨g_blind C.2.2.2.2.2.2.2.2.2.2.2, g_pre C hP hD hS⟩
  have hstack : (F0 X.2.2.2.2.2.1 pc ls ((av.reverse ++ st).map (tv w.2.2.1))).stack = (av.map (tv w.2.2.1)).reverse ++ st.map (tv w.2.2.1) := by
    simp [List.map_reverse]
  have hW8 : 2 * (F0 X.2.2.2.2.2.1 pc ls ((av.reverse ++ st).map (tv w.2.2.1))).monitorRoom + ((st.map (tv w.2.2.1)).map fun v => v.category).sum ≤ 8 := lv_room (by rw [g_lenmap]; exact hst)
  rcases hk with hk | ⟨host, hk⟩
  · exact g_back (va_runS (n := n) ⟨C.1, rfl, C.2.2.1, C.2.2.2.1, C.2.2.2.2.1⟩ hM ⟨callB_of n C.2.2.2.2.1 (gGood f1) rfl rfl rfl (C.2.2.2.2.1 _ f2) (C.2.2.2.2.1 _ hk) ⟨f3, f4, f5⟩ hR, C.2.2.2.2.1 _ hi⟩ hp rfl (by rw [List.length_map]; exact hn) hl.1 hstack hW8 (g_at C i hd) hroom) hD hS hl kk
  · exact g_back (va_runSN (n := n) ⟨C.1, rfl, C.2.2.1, C.2.2.2.1, C.2.2.2.2.1⟩ hM ⟨va_cnB n C.2.2.2.2.1 (gGood f1) rfl rfl rfl (C.2.2.2.2.2.1 _ hk) (C.2.2.2.2.1 _ f2) ⟨f3, f4, f5⟩ hR, C.2.2.2.2.1 _ hi, trivial⟩ hp rfl (by rw [List.length_map]; exact hn) hl.1 hstack hW8 (g_at C i hd) hroom) hD hS hl kk
end GCALL
/-! returns -/
def gR (X : gX) (w : gW) (r : Option Value) (μ' : gM) : State → Prop := MQ X.2.2.2.2.2.2.2.1 (gQ w r μ') X.2.2.2.2.2.2.1 X.2.2.2.2.1 0 0 (gA w)
section GRET
variable {X : gX} {w : gW} {K : gK} {nL pc d : Nat} {own : String} {lv : List (Nat × Value)} {μ : gM}
theorem v_iret (C : gC X w K nL own d) (i : Nat) {v : Int32} (hd : K[i]? = some (pc, .ireturn, 1)) (hr : X.2.2.2.2.2.2.2.2.1.sig.returnType = some .int) : gV X w 0 0 (gR X w (some (.int v)) μ) nL pc lv [.int v] μ := fun H locs ls hP hD hS hl =>
  W.iret (v := v) C.1 rfl hr (fun t ht hW => ⟨rfl, by rw [ht]; exact hP, hS.F ht⟩) hS.2.2 (g_at C i hd) C.2.2.2.2.2.2.2.1
theorem v_zret (C : gC X w K nL own d) (i : Nat) {v : Int32} (hd : K[i]? = some (pc, .ireturn, 1)) (hr : X.2.2.2.2.2.2.2.2.1.sig.returnType = some .boolean) (h01 : v = 0 ∨ v = 1) : gV X w 0 0 (gR X w (some (.int v)) μ) nL pc lv [.int v] μ := fun H locs ls hP hD hS hl =>
  W.zret (v := v) (ty := .boolean) C.1 rfl hr (by rcases h01 with rfl | rfl <;> decide +kernel) (fun t ht hW => ⟨rfl, by rw [ht]; exact hP, hS.F ht⟩) hS.2.2 (g_at C i hd) C.2.2.2.2.2.2.2.1
theorem v_lret (C : gC X w K nL own d) (i : Nat) {v : Int64} (hd : K[i]? = some (pc, .lreturn, 1)) (hr : X.2.2.2.2.2.2.2.2.1.sig.returnType = some .long) : gV X w 0 0 (gR X w (some (.long v)) μ) nL pc lv [.long v] μ := fun H locs ls hP hD hS hl =>
  W.lret (v := v) C.1 rfl hr (fun t ht hW => ⟨rfl, by rw [ht]; exact hP, hS.F ht⟩) hS.2.2 (g_at C i hd) C.2.2.2.2.2.2.2.1
theorem v_vret (C : gC X w K nL own d) (i : Nat) (hd : K[i]? = some (pc, .return_, 1)) (hr : X.2.2.2.2.2.2.2.2.1.sig.returnType = none) : gV X w 0 0 (gR X w none μ) nL pc lv [] μ := fun H locs ls hP hD hS hl =>
  W.vret C.1 rfl hr (fun t ht hW => ⟨rfl, by rw [ht]; exact hP, hS.F ht⟩) hS.2.2 (g_at C i hd) C.2.2.2.2.2.2.2.1
end GRET
/-- a body gives a contract -/
theorem gMet.of {l : Launch} {d : Nat} {y : MethodName} {cc : ByteArray} {nL n : Nat} {ret : Option FieldType} {w : gW} {av : List Value} {μ : gM} {r : Option Value} {μ' : gM} {K : gK} (hJ : gJok w) (F : gMf y cc nL ret n) (hK : ∀ q ∈ K, decode cc q.1 = .ok q.2) (hav : (lg_sl (av.map (tv w.2.2.1))).length ≤ nL)
    (body : ∀ X : gX, X.2.1 = l → gC X w K nL y.cls d → X.2.2.2.2.2.2.2.2.1.sig.returnType = ret → gV X w 0 0 (gR X w r μ') nL 0 (lv_args 0 av) [] μ) : gMet l d y cc nL ret w av μ r μ' := by
  refine Met.ofW (cc := cc) (maxL := nL) (ret := ret) F.2.2.2.2.2.1 rfl ?_
  intro p e s m args below meth c s1 B hml hv
  obtain ⟨rfl, hP, hD, hKk, hN, hJs⟩ := hv
  have hts := atoms_spec (ws := Cond.code y cc nL ret :: gTb) B.pre
  have hb := B.bytes
  have hX := body (p, l, e, (headSpec (Cond.code y cc nL ret :: gTb) (g_rm d)).room, s, m, (av.map (tv w.2.2.1)).toArray, below, meth, c) rfl ⟨B.exec, by rw [hb]; exact hK, hml, findClass_of_methodNamed B.named, fun q hq => hts q (List.mem_cons_of_mem _ hq), hN, hKk, B.notSynchronized, Nat.le_refl _, Nat.le_refl _, hJs, hJ⟩ B.returns
  have hl := lv_entry (av.map (tv w.2.2.1)) (n := nL) hav
  rw [lg_entry_eq]
  have hla : lv_args 0 (av.map (tv w.2.2.1)) = (lv_args 0 av).map (tvp w.2.2.1) := by
    have key : ∀ (av : List Value) (i : Nat), lv_args i (av.map (tv w.2.2.1)) = (lv_args i av).map (tvp w.2.2.1) := by
      intro av
      induction av with
      | nil => intro i; rfl
      | cons v av ih =>
        intro i
        simp only [lv_args, List.map_cons, ih]
        cases v <;> rfl
    exact key av 0
  rw [hla] at hl
  exact hX s.heap [] _ hP hD va_S.rf hl
