-- began as the skeleton of kit/laws (its second piece)
/-! THE CLAIM OUT OF ONE WALK OF THE LAW'S BODY. Your part is whole_start (and what it stands on); all else here is the same for every law, but numbers. -/
def R_law : String := "ScopeGraphLaw"
def lw_P (b : Addr) (xs : List Int32) (args : Array Value) (s : State) : Prop := args = #[.ref b] ∧ s.IntsAt b xs ∧ xs.length ≤ 3072 ∧ (Jvm.Cond.and given_1 narrow_1).before args s = true
def lw_Q (_ : Array Value) (s : State) (o : Outcome) (t : State) : Prop := o = .returned (some (.int 1)) ∧ Framed s o t [] 601024 7293034
def lw_Z (below : List Frame) (a : Array Value) (s : State) : State → Prop := fun t => ∃ o, t.status = .running ∧ Ended t below o ∧ lw_Q a s o t
/-- the law's own end, with 1 on the stack, nothing written that was there before, its room as the claim has it -/
theorem lw_ret {p : Program} {l : Launch} {e : Env} {s : State} {m : MethodId} {below : List Frame} {meth : Method} {c : Code} {b : Nat} (hx : p.tables.exec = Jvm.exec) (hb : c.code = code) (hr : meth.sig.returnType = ret) (hlocks : meth.locks = false) {pc : Nat} {H : Heap} {ls : Array Slot} (hdg : decode code pc = .ok (.ireturn, 1)) : W p l e room_1 s m #[Value.ref b] below meth c H [] 601024 7293034 (lw_Z below #[Value.ref b] s) (F0 m pc ls [.int 1]) := by
  intro T hT X
  obtain ⟨fs, hret, hrun, hended, hW, hframe⟩ := X.leave (v := some (.int 1)) (hlocks := hlocks) (fun h => by rw [hr] at h; cases h)
  have hmeth' : T.vm.method? m = some meth := X.method'
  refine ⟨T.setFrames fs, ?_, .returned (some (.int 1)), hrun, hended, rfl, ⟨_, rfl⟩, hW, hframe⟩
  jvm_step X.here [X.here.top, hx, hb, hdg, hmeth', hr, ret, narrow_b1]
  (try refine ⟨rfl, ?_⟩); (try refine ⟨rfl, ?_⟩)
  first | (intro acts; rw [hret _ acts rfl rfl rfl]) | rw [hret _ _ rfl rfl rfl]
  exact Steps.refl _
/-- what holds at the law's entry: the machine, the code, the tables' words (any of lw_tbl by 'hts w (by decide +kernel)'), the script of L ints xs at the cell b, what the Statement gives of the start (any of its parts by flat_of_before) -/
def lw_At (p : Program) (s : State) (m : MethodId) (meth : Method) (c : Code) (b L : Nat) (xs : Nat → Int32) : Prop :=
  p.tables.exec = Jvm.exec ∧ c.code = code ∧ meth.sig.returnType = ret ∧ c.maxLocals = 7 ∧ s.vm.findClass R_law = some m.cls ∧ (∀ w ∈ lw_tbl, w.before #[Value.ref b] s = true) ∧ va_X b L xs s s.heap ∧ b < s.heap.size ∧ meth.locks = false ∧ (Jvm.Cond.and given_1 narrow_1).before #[Value.ref b] s = true

/-! ROWS OF THE LAW'S OWN BODY: its script (number 2000000), the calls of its wrappers, its end -/
theorem gEx.js {w w' : gW} (h : gEx w w') (hG : gJs w) : gJs w' := by
  intro U hU
  rw [h.2.2.2.1] at hU
  have h1 := hG U hU
  have e : ∀ k, 1000000 ≤ k → w'.2.2.1 k = w.2.2.1 k := fun k hk => h.2.2.2.2.1 k (Or.inr hk)
  unfold gStr at h1 ⊢
  obtain ⟨a1, a2, ⟨v, a3, a4⟩, b0, b1, b2, b3, b4, b5, b6, b7, b8, b9⟩ := h1
  have eK : (fun i => w'.2.2.1 (1000000 + i)) = fun i => w.2.2.1 (1000000 + i) := funext fun i => e _ (by omega)
  have eV : (fun i => w'.2.2.1 (1000100 + i)) = fun i => w.2.2.1 (1000100 + i) := funext fun i => e _ (by omega)
  rw [h.A, eK, eV, e 1000000 (by omega), e 1000001 (by omega), e 1000002 (by omega), e 1000003 (by omega), e 1000004 (by omega), e 1000005 (by omega), e 1000006 (by omega), e 1000007 (by omega), e 1000008 (by omega), e 1000009 (by omega)]
  refine ⟨a1, a2, ?_, b0, b1, b2, b3, b4, b5, b6, b7, b8, b9⟩
  rcases a3 with rfl | rfl
  · exact ⟨.null, Or.inl rfl, a4⟩
  · refine ⟨.ref 1000200, Or.inr rfl, ?_⟩
    show va_Z _ _ _ (.ref (w'.2.2.1 1000200)) _ _ _
    rw [e 1000200 (by omega)]
    exact a4
theorem gEx.jx {w w' : gW} (h : gEx w w') (hE : gJx w) : gJx w' := by
  intro U hU
  rw [h.2.2.2.1] at hU
  have h1 := hE U hU
  unfold gExc at h1 ⊢
  rw [h.A]
  exact h1
def gSc (X : gX) (w : gW) (L : Nat) (xs : Nat → Int32) : Prop := va_X (w.2.2.1 2000000) L xs X.2.2.2.2.1 X.2.2.2.2.1.heap ∧ w.2.2.1 2000000 < X.2.2.2.2.1.heap.size ∧ ¬ gA w (w.2.2.1 2000000)
theorem gSc.ext {X : gX} {w w' : gW} {L : Nat} {xs : Nat → Int32} (h : gSc X w L xs) (hx : gEx w w') : gSc X w' L xs := by
  unfold gSc
  rw [hx.2.2.2.2.1 2000000 (Or.inr (by omega)), hx.A]
  exact h
section GLAW
variable {X : gX} {w : gW} {K : gK} {kc ks nL pc d L : Nat} {xs : Nat → Int32} {own : String} {Q : State → Prop} {lv : List (Nat × Value)} {st : List Value} {μ : gM}
theorem v_scl (C : gC X w K nL own d) (hc : gSc X w L xs) (i : Nat) {k : Nat} (hk : k = 2000000) (hd : K[i]? = some (pc, .arraylength, 1)) (kk : gV X w kc ks Q nL (pc + 1) lv (.int (Int32.ofNat L) :: st) μ) : gV X w kc ks Q nL pc lv (.ref k :: st) μ := by
  subst hk
  exact fun H locs ls hP hD hS hl => va_slen C.1 rfl hc.1 hc.2.1 hc.2.2 hS (g_at C i hd) (kk H locs ls hP hD hS hl)
theorem v_scd (C : gC X w K nL own d) (hc : gSc X w L xs) (i : Nat) {k : Nat} (hk : k = 2000000) {x : Int32} (hin : inB x L = true) (hd : K[i]? = some (pc, .iaload, 1)) (kk : gV X w kc ks Q nL (pc + 1) lv (.int (xs x.toNatClampNeg) :: st) μ) : gV X w kc ks Q nL pc lv (.int x :: .ref k :: st) μ := by
  subst hk
  exact fun H locs ls hP hD hS hl => va_sld C.1 rfl hc.1 hc.2.1 hc.2.2 hS (g_inB hin) (g_at C i hd) (kk H locs ls hP hD hS hl)
theorem v_callSA (C : gC X w K nL own d) (i : Nat) {idx d2 n nL2 : Nat} {y : MethodName} {cc2 : ByteArray} {ret2 : Option FieldType} {hh : List (Nat × Nat × Nat × Nat)} {av : List Value} {r : Option Value} {μ' : gM} (hd : K[i]? = some (pc, .invokestatic idx, 3))
    (F : gMfW y cc2 nL2 ret2 hh n) (hi : Cond.static y ∈ gTb) (hk : Cond.methodLink own idx y ∈ gTb) (hM : gMA X.2.1 d2 y cc2 nL2 ret2 hh w av μ r μ') (hd2 : d2 < d) (hn : av.length = n) (hst : (st.map fun v => v.category).sum ≤ 8) (hroom : kc + 1 ≤ X.2.2.2.1.cells ∧ ks + 6 ≤ X.2.2.2.1.slots)
    {st0 : List Value} (h0 : st0 = av.reverse ++ st) (kk : gV X w (kc + 1) (ks + 6) Q nL (pc + 3) lv (r.toList ++ st) μ') : gV X w kc ks Q nL pc lv st0 μ := by
  intro H locs ls hP hD hS hl
  subst h0
  obtain ⟨f1, f2, f3, f4, f5, f6, f7⟩ := F
  have hR : (g_rx d2).frames + 1 ≤ X.2.2.2.1.frames ∧ 8 + (nL2 + 11) + (g_rx d2).locals ≤ X.2.2.2.1.locals := by
    have a1 := C.2.2.2.2.2.2.2.2.1
    have a2 := C.2.2.2.2.2.2.2.2.2.1
    simp only [g_rx]
    omega
  have hp : PreS X.2.2.2.2.1 H (gPc w av μ) (av.map (tv w.2.2.1)) := ⟨g_blind C.2.2.2.2.2.2.2.2.2.2.2, g_pre C hP hD hS⟩
  have hstack : (F0 X.2.2.2.2.2.1 pc ls ((av.reverse ++ st).map (tv w.2.2.1))).stack = (av.map (tv w.2.2.1)).reverse ++ st.map (tv w.2.2.1) := by
    simp [List.map_reverse]
  have hW8 : 2 * (F0 X.2.2.2.2.2.1 pc ls ((av.reverse ++ st).map (tv w.2.2.1))).monitorRoom + ((st.map (tv w.2.2.1)).map fun v => v.category).sum ≤ 8 := lv_room (by rw [g_lenmap]; exact hst)
  have hg : GoodIn gTb (.codeWith y cc2 nL2 ret2 hh :: gTb) := by
    intro q hq
    have h1 : q ∈ gTb := by
      rcases List.mem_cons.mp hq with rfl | h1
      · exact f1
      · exact h1
    exact ⟨h1, good_of_word (List.mem_filter.mp h1).2⟩
  have hcw : vx_CSW X.2.2.2.1 X.2.2.2.2.1 X.2.2.2.2.2.2.1 own idx y cc2 nL2 ret2 hh (.codeWith y cc2 nL2 ret2 hh :: gTb) (g_rx d2) 1 6 n := by
    refine ⟨⟨rfl, rfl, hR.1, hR.2, pay_in C.2.2.2.2.1 hg, List.mem_cons_self⟩, C.2.2.2.2.1 _ f1, C.2.2.2.2.1 _ f2, ⟨f3, f4⟩, fun sig h => ?_, C.2.2.2.2.1 _ hk, C.2.2.2.2.1 _ hi⟩
    rw [h] at f5
    exact (Option.some.inj f5).symm
  exact g_back (vx_runSW (n := n) ⟨C.1, rfl, C.2.2.1, C.2.2.2.1, C.2.2.2.2.1⟩ hM hcw hp rfl (by rw [List.length_map]; exact hn) hl.1 hstack hW8 (g_at C i hd) hroom) hD hS hl kk
end GLAW
