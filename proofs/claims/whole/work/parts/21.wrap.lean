/-! THE LAW'S WRAPPERS: a method with one row in its table, that calls a throwing one -/
def gMA (l : Launch) (d : Nat) (y : MethodName) (cc : ByteArray) (nL : Nat) (ret : Option FieldType) (hh : List (Nat × Nat × Nat × Nat)) (w : gW) (av : List Value) (μ : gM) (r : Option Value) (μ' : gM) : Prop :=
  Met l y (.codeWith y cc nL ret hh :: gTb) (g_rx d) (gPc w av μ) (gQ w r μ') 1 6 (gA w)
def gRA (X : gX) (w : gW) (r : Option Value) (μ' : gM) : State → Prop := MQ X.2.2.2.2.2.2.2.1 (gQ w r μ') X.2.2.2.2.2.2.1 X.2.2.2.2.1 1 6 (gA w)
def gMfW (y : MethodName) (cc : ByteArray) (nL : Nat) (ret : Option FieldType) (hh : List (Nat × Nat × Nat × Nat)) (n : Nat) : Prop := Cond.codeWith y cc nL ret hh ∈ gTb ∧ Cond.initialized y.cls ∈ gTb ∧ y.cls ≠ "java/lang/invoke/MethodHandle" ∧ y.cls ≠ "java/lang/invoke/VarHandle" ∧ (parseMethodDescriptor y.desc).map (fun d => d.parameters.length) = some n ∧ plainName y.cls = true ∧ nL ≤ 18
theorem g_Dany {w : gW} {μ : gM} (μ' : gM) (hD : va_D (gA w) (gwl w μ)) : va_D (gA w) (gwl w μ') := by
  have key : ∀ {m : gM} {i : Nat} {p : Nat × va_E}, (gwl w m)[i]? = some p → p.1 = w.2.2.1 i ∧ i < w.2.2.2.2.1.length := by
    intro m i p h
    have hlt : i < (gwl w m).length := (List.getElem?_eq_some_iff.mp h).1
    rw [gwl, g_wl_len] at hlt
    have h2 := g_wl_at (ad := w.2.2.1) (cA := w.2.1) (μ := m) (List.getElem?_eq_getElem hlt)
    rw [gwl, h2] at h
    cases h
    exact ⟨rfl, hlt⟩
  refine ⟨fun i j p q hi hj hpq => ?_, fun k q hq => ?_⟩
  · obtain ⟨a1, a2⟩ := key hi
    obtain ⟨b1, b2⟩ := key hj
    exact hD.1 i j _ _ (g_wl_at (List.getElem?_eq_getElem a2)) (g_wl_at (List.getElem?_eq_getElem b2)) (by rw [a1, b1] at hpq; exact hpq)
  · obtain ⟨a1, a2⟩ := key hq
    rw [a1]
    exact hD.2 k (w.2.2.1 k, g_ce w.2.2.1 w.2.1 μ k _) (g_wl_at (List.getElem?_eq_getElem a2))
section GWRAP
variable {X : gX} {w : gW} {K : gK} {kc ks nL pc d : Nat} {own : String} {Q : State → Prop} {lv : List (Nat × Value)} {st : List Value} {μ : gM}
theorem g_runX (C : gC X w K nL own d) (i : Nat) {idx d2 ci n nL2 b : Nat} {y : MethodName} {cc2 : ByteArray} {ret2 : Option FieldType} {av : List Value} {E : String} {o : Option (Option Value)} {μ' : gM} {Cn : String} {T : u_T} {N : Nat} (hd : K[i]? = some (pc, .invokevirtual idx, 3))
    (F : gMf y cc2 nL2 ret2 n) (hcl : gCls ci Cn T N) (hi : Cond.instanceMethod y ∈ gTb ∧ Cond.selects Cn y y ∈ gTb) (hk : Cond.methodLink own idx y ∈ gTb) (hM : gMx X.2.1 d2 y cc2 nL2 ret2 w (.ref b :: av) μ E o μ') (hd2 : d2 < d) (hn : av.length = n) (hs : w.2.2.2.2.1[b]? = some (.inl ci)) (hst : (st.map fun v => v.category).sum ≤ 8) (hroom : kc + 1 ≤ X.2.2.2.1.cells ∧ ks + 6 ≤ X.2.2.2.1.slots)
    {H : Heap} {locs : List Loc} {ls : Array Slot} (hP : va_P w.1 vwCl (gwl w μ) H) (hD : va_D (gA w) (gwl w μ)) (hS : va_S (gA w) X.2.2.2.2.1.heap H locs) (hl : lv_has ls nL (lv.map (tvp w.2.2.1))) :
    vx_Run X.1 X.2.1 X.2.2.1 X.2.2.2.1 X.2.2.2.2.1 X.2.2.2.2.2.1 X.2.2.2.2.2.2.1 X.2.2.2.2.2.2.2.1 X.2.2.2.2.2.2.2.2.1 X.2.2.2.2.2.2.2.2.2 H locs kc ks 1 6 (F0 X.2.2.2.2.2.1 pc ls ((av.reverse ++ .ref b :: st).map (tv w.2.2.1))) (st.map (tv w.2.2.1)) (gQx w o μ' (Value.ref (w.2.2.1 b) :: av.map (tv w.2.2.1)).toArray) (gXx w E o μ') (gA w) := by
  obtain ⟨f1, f2, f3, f4, f5, f6, f7⟩ := F
  obtain ⟨c1, -, -, -, -⟩ := hcl
  have hR : (g_rx d2).frames + 1 ≤ X.2.2.2.1.frames ∧ 8 + (nL2 + 11) + (g_rx d2).locals ≤ X.2.2.2.1.locals := by
    have a1 := C.2.2.2.2.2.2.2.2.1
    have a2 := C.2.2.2.2.2.2.2.2.2.1
    simp only [g_rx]
    omega
  have hp : PreV X.2.2.2.2.1 H Cn (w.2.2.1 b) (gPc w (.ref b :: av) μ) (av.map (tv w.2.2.1)) := ⟨g_blind C.2.2.2.2.2.2.2.2.2.2.2, va_recv (q0 := b) (q := (Cn, T, N)) C.2.2.2.2.2.2.1 hP c1 (g_wl_at hs), g_pre C hP hD hS⟩
  have hstack : (F0 X.2.2.2.2.2.1 pc ls ((av.reverse ++ .ref b :: st).map (tv w.2.2.1))).stack = (av.map (tv w.2.2.1)).reverse ++ .ref (w.2.2.1 b) :: st.map (tv w.2.2.1) := by
    simp [tv, List.map_reverse]
  have hW8 : 2 * (F0 X.2.2.2.2.2.1 pc ls ((av.reverse ++ .ref b :: st).map (tv w.2.2.1))).monitorRoom + ((st.map (tv w.2.2.1)).map fun v => v.category).sum ≤ 8 := lv_room (by rw [g_lenmap]; exact hst)
  exact vx_runV (C := Cn) (b := w.2.2.1 b) (n := n) ⟨C.1, rfl, C.2.2.1, C.2.2.2.1, C.2.2.2.2.1⟩ hM ⟨callB_of n C.2.2.2.2.1 (gGood f1) rfl rfl rfl (C.2.2.2.2.1 _ f2) (C.2.2.2.2.1 _ hk) ⟨f3, f4, f5⟩ hR, C.2.2.2.2.1 _ hi.1, C.2.2.2.2.1 _ hi.2⟩ hp rfl (by rw [List.length_map]; exact hn) hl.1 hstack hW8 (g_at C i hd) hroom
theorem v_callXr (C : gC X w K nL own d) (i : Nat) {idx d2 ci n nL2 b : Nat} {y : MethodName} {cc2 : ByteArray} {ret2 : Option FieldType} {av : List Value} {E : String} {r : Option Value} {μ' : gM} {Cn : String} {T : u_T} {N : Nat} (hd : K[i]? = some (pc, .invokevirtual idx, 3))
    (F : gMf y cc2 nL2 ret2 n) (hcl : gCls ci Cn T N) (hi : Cond.instanceMethod y ∈ gTb ∧ Cond.selects Cn y y ∈ gTb) (hk : Cond.methodLink own idx y ∈ gTb) (hM : gMx X.2.1 d2 y cc2 nL2 ret2 w (.ref b :: av) μ E (some r) μ') (hd2 : d2 < d) (hn : av.length = n) (hs : w.2.2.2.2.1[b]? = some (.inl ci)) (hst : (st.map fun v => v.category).sum ≤ 8) (hroom : kc + 1 ≤ X.2.2.2.1.cells ∧ ks + 6 ≤ X.2.2.2.1.slots)
    {st0 : List Value} (h0 : st0 = av.reverse ++ .ref b :: st) (kk : gV X w (kc + 1) (ks + 6) Q nL (pc + 3) lv (r.toList ++ st) μ') : gV X w kc ks Q nL pc lv st0 μ := by
  intro H locs ls hP hD hS hl
  subst h0
  have hrun := g_runX C i hd F hcl hi hk hM hd2 hn hs hst hroom hP hD hS hl
  refine g_back (mc := 1) (ms := 6) (r := r) (μ' := μ') (a := (Value.ref (w.2.2.1 b) :: av.map (tv w.2.2.1)).toArray) ?_ hD hS hl kk
  intro T hT X1
  rcases hrun T hT X1 with ⟨v, s0, t, T', L, h0, X', hL, e1, e2, ⟨r', hr', hq⟩, hgo⟩ | ⟨q, s0, t, T', L, E', ce, h0, X', hL, e1, e2, ⟨hno, -⟩, -⟩
  · cases hr'
    exact ⟨v, s0, t, T', L, h0, X', hL, e1, e2, hq, hgo⟩
  · cases hno
theorem v_callXn (C : gC X w K nL own d) (hE : gJx w) (i : Nat) {idx d2 ci n nL2 b : Nat} {y : MethodName} {cc2 : ByteArray} {ret2 : Option FieldType} {av : List Value} {E : String} {μ' : gM} {Cn : String} {T : u_T} {N : Nat} (hd : K[i]? = some (pc, .invokevirtual idx, 3))
    (F : gMf y cc2 nL2 ret2 n) (hcl : gCls ci Cn T N) (hi : Cond.instanceMethod y ∈ gTb ∧ Cond.selects Cn y y ∈ gTb) (hk : Cond.methodLink own idx y ∈ gTb) (hM : gMx X.2.1 d2 y cc2 nL2 ret2 w (.ref b :: av) μ E none μ') (hd2 : d2 < d) (hn : av.length = n) (hs : w.2.2.2.2.1[b]? = some (.inl ci)) (hst : (st.map fun v => v.category).sum ≤ 8) (hroom : kc + 1 ≤ X.2.2.2.1.cells ∧ ks + 6 ≤ X.2.2.2.1.slots)
    {st0 : List Value} (h0 : st0 = av.reverse ++ .ref b :: st) {x : ExceptionTableEntry} (htab : X.2.2.2.2.2.2.2.2.2.exceptionTable.toList = [x]) (hx : covers x pc = true) (hx0 : x.catchType ≠ 0) (hlk : Cond.classLink own x.catchType E ∈ gTb) (hca : Cond.castable E E ∈ gEb)
    (j : Nat) {loc len : Nat} (hh : decode X.2.2.2.2.2.2.2.2.2.code x.handlerPc = .ok (.astore loc, len) ∧ len = 2 ∨ ∃ k : Fin 4, decode X.2.2.2.2.2.2.2.2.2.code x.handlerPc = .ok (.astore_n k, 1) ∧ (k : Nat) = loc ∧ len = 1) (hloc : loc < nL) {lv' : List (Nat × Value)} (hlv : lv.filter (fun q => !(q.1 == loc) && !(q.1 + 1 == loc && q.2.category == 2)) = lv')
    (kk : gV X w (kc + 1) (ks + 6) Q nL (x.handlerPc + len) lv' [] μ') : gV X w kc ks Q nL pc lv st0 μ := by
  intro H locs ls hP hD hS hl
  subst h0
  have hrun := g_runX C i hd F hcl hi hk hM hd2 hn hs hst hroom hP hD hS hl
  intro T hT X1
  rcases hrun T hT X1 with ⟨v, s0, t, T', L, h0, X', hL, e1, e2, ⟨r', hr', hq⟩, hgo⟩ | ⟨q, s0, t, T', L, E', ce, h0, X', hL, e1, e2, ⟨-, hEE, hp, hz, hk2⟩, hce, hcv, hcl2, hst1⟩
  · cases hr'
  · subst hEE
    rw [h0] at hz hk2
    obtain ⟨c3, c4, hc3, hc4, hasg⟩ := Cond.castable_spec (((hE _ C.2.2.2.2.2.2.2.2.2.2.1).2.2 _ hca).use (A := X.2.2.2.2.2.2.1) rfl)
    cases Option.some.inj (hc3.symm.trans hc4)
    cases Option.some.inj (hc3.symm.trans hcl2)
    obtain ⟨vm2, X2, hgo2⟩ := gx_caught X' q (g := { F0 X.2.2.2.2.2.1 pc ls ((av.reverse ++ .ref b :: st).map (tv w.2.2.1)) with stack := st.map (tv w.2.2.1) }) rfl C.2.2.2.1 htab hx hx0 (C.2.2.2.2.1 _ hlk) hc3 (by rw [e1]; exact hce) (by rw [hcv]; rfl) hasg
    have hS' : va_S (gA w) X.2.2.2.2.1.heap T'.heap (locs ++ L) := ⟨Nat.le_trans hS.1 (by rw [e1]; exact hz), fun q h1 h2 => by rw [e1, hk2 q (Nat.lt_of_lt_of_le h1 hS.1) h2]; exact hS.2.1 q h1 h2, fun q hq => by
      rcases List.mem_append.mp hq with h | h
      · exact hS.2.2 q h
      · exact hL q h⟩
    have hkeep : ∀ ls' : Array Slot, lv_has ls' nL ((loc, .ref q) :: (lv.map (tvp w.2.2.1)).filter (fun q => !(q.1 == loc) && !(q.1 + 1 == loc && q.2.category == 2))) → lv_has ls' nL (lv'.map (tvp w.2.2.1)) := by
      intro ls' h
      refine ⟨h.1, h.2.1, fun z hz => h.2.2 z (List.mem_cons_of_mem _ ?_)⟩
      rw [g_fm (fun a c => !(a == loc) && !(a + 1 == loc && c == 2)) lv, hlv]
      exact hz
    have hw : W X.1 X.2.1 X.2.2.1 X.2.2.2.1 X.2.2.2.2.1 X.2.2.2.2.2.1 X.2.2.2.2.2.2.1 X.2.2.2.2.2.2.2.1 X.2.2.2.2.2.2.2.2.1 X.2.2.2.2.2.2.2.2.2 T'.heap (locs ++ L) (kc + 1) (ks + 6) Q (F0 X.2.2.2.2.2.1 x.handlerPc ls [.ref q]) := by
      rcases hh with ⟨hh, rfl⟩ | ⟨k, hh, hkl, rfl⟩
      · exact lv_astore C.1 rfl hh hl hloc rfl (fun ls' hl2 => kk T'.heap (locs ++ L) ls' (by rw [e1]; exact hp) (g_Dany μ' hD) hS' (hkeep ls' hl2))
      · exact lv_astore_n C.1 rfl hh hkl hl hloc rfl (fun ls' hl2 => kk T'.heap (locs ++ L) ls' (by rw [e1]; exact hp) (g_Dany μ' hD) hS' (hkeep ls' hl2))
    obtain ⟨t3, a1, b1⟩ := hw (T'.setVm vm2) rfl X2
    exact ⟨t3, hst1.trans (hgo2 t3 a1), b1⟩
theorem v_iretA (C : gC X w K nL own d) (i : Nat) {v : Int32} (hd : K[i]? = some (pc, .ireturn, 1)) (hr : X.2.2.2.2.2.2.2.2.1.sig.returnType = some .int) : gV X w 1 6 (gRA X w (some (.int v)) μ) nL pc lv [.int v] μ := fun H locs ls hP hD hS hl =>
  W.iret (v := v) C.1 rfl hr (fun t ht hW => ⟨rfl, by rw [ht]; exact hP, hS.F ht⟩) hS.2.2 (g_at C i hd) C.2.2.2.2.2.2.2.1
end GWRAP
theorem gMA.of {l : Launch} {d : Nat} {y : MethodName} {cc : ByteArray} {nL n : Nat} {ret : Option FieldType} {hh : List (Nat × Nat × Nat × Nat)} {w : gW} {av : List Value} {μ : gM} {r : Option Value} {μ' : gM} {K : gK} (hJ : gJok w) (F : gMfW y cc nL ret hh n) (hK : ∀ q ∈ K, decode cc q.1 = .ok q.2) (hav : (lg_sl (av.map (tv w.2.2.1))).length ≤ nL)
    (body : ∀ X : gX, X.2.1 = l → gC X w K nL y.cls d → X.2.2.2.2.2.2.2.2.2.exceptionTable.toList = tableOf hh → X.2.2.2.1 = g_rx d → X.2.2.2.2.2.2.2.2.1.sig.returnType = ret → gV X w 0 0 (gRA X w r μ') nL 0 (lv_args 0 av) [] μ) : gMA l d y cc nL ret hh w av μ r μ' := by
  unfold gMA Met
  refine MetFree.of_bodyS (code := cc) (maxLocals := nL) (ret := ret) F.2.2.2.2.2.1 ?_ ?_
  · intro args s m h hn
    obtain ⟨m9, meth, c, hn9, h1, h2, h3, h4, -, h5, h6, -⟩ := Cond.codeWith_spec (atoms_spec (ws := Cond.codeWith y cc nL ret hh :: gTb) h _ List.mem_cons_self)
    cases hn.symm.trans hn9
    exact ⟨meth, c, h1, h2, h3, h4, h5, h6⟩
  · intro p e s m args below meth c s1 B hml hv _
    have hh0 : s1.heap = s.heap := by rw [B.state]; rfl
    have htb := vx_table (x := y) B (atoms_spec (ws := Cond.codeWith y cc nL ret hh :: gTb) B.pre _ List.mem_cons_self)
    obtain ⟨rfl, hP, hD, hKk, hN, hJs⟩ := hv
    have hts := atoms_spec (ws := Cond.codeWith y cc nL ret hh :: gTb) B.pre
    have hb := B.bytes
    have hX := body (p, l, e, (headSpec (Cond.codeWith y cc nL ret hh :: gTb) (g_rx d)).room, s, m, (av.map (tv w.2.2.1)).toArray, below, meth, c) rfl ⟨B.exec, by rw [hb]; exact hK, hml, findClass_of_methodNamed B.named, fun q hq => hts q (List.mem_cons_of_mem _ hq), hN, hKk, B.notSynchronized, Nat.le_refl _, Nat.le_refl _, hJs, hJ⟩ htb rfl B.returns
    have hl := lv_entry (av.map (tv w.2.2.1)) (n := nL) hav
    have hla : lv_args 0 (av.map (tv w.2.2.1)) = (lv_args 0 av).map (tvp w.2.2.1) := by
      have key : ∀ (av : List Value) (i : Nat), lv_args i (av.map (tv w.2.2.1)) = (lv_args i av).map (tvp w.2.2.1) := by
        intro av
        induction av with
        | nil => intro i; rfl
        | cons v av ih =>
          intro i
          simp only [lv_args, List.map_cons, ih]
          cases v <;> rfl
      exact key av 0
    rw [hla] at hl
    have hW := hX s.heap [] _ hP hD va_S.rf hl
    have hE : entryFrame m (av.map (tv w.2.2.1)).toArray nL = F0 m 0 (lg_sl (av.map (tv w.2.2.1)) ++ List.replicate (nL - (lg_sl (av.map (tv w.2.2.1))).length) Slot.unset).toArray [] := lg_entry_eq ..
    obtain ⟨t, a1, o, b1, b2, b3⟩ := hW s1 hh0 (Stand.of_body B)
    rw [hE]
    exact ⟨t, o, a1, b1, b2, ⟨b3.1, b3.2⟩⟩
