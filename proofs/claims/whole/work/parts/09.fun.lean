/-! WORDS OF THE FUNCTIONS that a program reads off the bytecode: checks give none where the machine would throw; nm names a value -/
def nm {α β : Type} (a : α) (f : α → β) : β := f a
def oB (sh : List gS) (k ci : Nat) : Bool := decide (sh[k]? = some (.inl ci))
def inB (x : Int32) (n : Nat) : Bool := !(decide (x < 0)) && decide (x.toNatClampNeg < n)
def aB (sh : List gS) (k : Nat) (ty : FieldType) (x : Int32) : Bool := match sh[k]? with
  | some (.inr q) => decide (q.1 = ty) && inB x q.2
  | _ => false
def aL (sh : List gS) (k : Nat) (ty : FieldType) : Option Nat := match sh[k]? with
  | some (.inr q) => if q.1 = ty then some q.2 else none
  | _ => none
def zB (v : Int32) : Bool := decide (v = 0) || decide (v = 1)
theorem g_oB {sh : List gS} {k ci : Nat} (h : oB sh k ci = true) : sh[k]? = some (.inl ci) := by simpa [oB] using h
theorem g_inB {x : Int32} {n : Nat} (h : inB x n = true) : vp_in x n := by
  simp only [inB, Bool.and_eq_true, Bool.not_eq_true', decide_eq_false_iff_not, decide_eq_true_eq] at h
  rintro (q | q)
  · exact h.1 q
  · omega
theorem g_aB {sh : List gS} {k : Nat} {ty : FieldType} {x : Int32} (h : aB sh k ty x = true) : ∃ n, sh[k]? = some (.inr (ty, n)) ∧ vp_in x n := by
  unfold aB at h
  split at h
  · rename_i q hq
    simp only [Bool.and_eq_true, decide_eq_true_eq] at h
    obtain ⟨t, n⟩ := q
    obtain ⟨h1, h2⟩ := h
    dsimp only at h1 h2
    subst h1
    exact ⟨n, hq, g_inB h2⟩
  · cases h
theorem g_aL {sh : List gS} {k n : Nat} {ty : FieldType} (h : aL sh k ty = some n) : sh[k]? = some (.inr (ty, n)) := by
  unfold aL at h
  split at h
  · rename_i q hq
    obtain ⟨t, m⟩ := q
    split at h
    · rename_i h1
      dsimp only at h1 h
      subst h1
      cases h
      exact hq
    · cases h
  · cases h
theorem g_zB {v : Int32} (h : zB v = true) : v = 0 ∨ v = 1 := by simpa [zB] using h
theorem g_ok {α : Type} {c : Bool} {a : Option α} {r : α} (h : (if c = true then a else none) = some r) : c = true ∧ a = some r := by
  cases c with
  | true => exact ⟨rfl, h⟩
  | false => simp at h
def g_if {α : Type} (c : Bool) (a : Option α) : Option α := if c = true then a else none
theorem g_okk {α : Type} {c : Bool} {a : Option α} {r : α} (h : g_if c a = some r) : c = true ∧ a = some r := g_ok h
theorem g_ifT {α : Type} {c : Prop} {dc : Decidable c} {a b : Option α} {r : α} (hc : c) (h : (@ite _ c dc a b) = some r) : a = some r := by rwa [if_pos hc] at h
theorem g_ifF {α : Type} {c : Prop} {dc : Decidable c} {a b : Option α} {r : α} (hc : ¬ c) (h : (@ite _ c dc a b) = some r) : b = some r := by rwa [if_neg hc] at h
theorem g_bd {α β : Type} {o : Option α} {f : α → Option β} {r : β} (h : o.bind f = some r) : ∃ x, o = some x ∧ f x = some r := by
  cases o with
  | none => cases h
  | some x => exact ⟨x, rfl, h⟩
theorem g_nm {α β : Type} {a y : α} {f : α → Option β} {r : β} (h : nm a f = some r) (e : y = a) : f y = some r := by
  subst e
  exact h
theorem g_so {α β : Type} {a c : α} {b d : β} (h : some (a, b) = some (c, d)) : c = a ∧ d = b := by
  cases h
  exact ⟨rfl, rfl⟩
theorem g_s1' {β : Type} {b d : β} (h : some b = some d) : d = b := by
  cases h
  rfl
theorem g_tne {x v : Int32} {n : Int} (hv : v.toInt = n) (h : ¬ x = v) : x.toInt ≠ n := fun e => h (Int32.toInt_inj.mp (e.trans hv.symm))
section GX
variable {X : gX} {w : gW} {K : gK} {kc ks nL pc d : Nat} {own : String} {Q : State → Prop} {lv lv' : List (Nat × Value)} {st : List Value} {μ : gM}
theorem v_topI {x : Int32} (k : ∀ y, y = x → gV X w kc ks Q nL pc lv (.int y :: st) μ) : gV X w kc ks Q nL pc lv (.int x :: st) μ := k x rfl
theorem v_topJ {x : Int64} (k : ∀ y, y = x → gV X w kc ks Q nL pc lv (.long y :: st) μ) : gV X w kc ks Q nL pc lv (.long x :: st) μ := k x rfl
theorem v_topM (k : ∀ m, m = μ → gV X w kc ks Q nL pc lv st m) : gV X w kc ks Q nL pc lv st μ := k μ rfl
theorem v_iincN (C : gC X w K nL own d) (i j : Nat) {b : Nat} {n : Int} {x : Int32} (lvf : Int32 → List (Nat × Value)) (hd : K[i]? = some (pc, .iinc b n, 3)) (hj : lv[j]? = some (b, .int x)) (hn : b < nL) (hl' : ∀ v, g_s1 lv b (.int v) = lvf v) (k : ∀ v, v = x + Int32.ofInt n → gV X w kc ks Q nL (pc + 3) (lvf v) st μ) : gV X w kc ks Q nL pc lv st μ := v_iinc C i j (x + Int32.ofInt n) hd hj rfl hn (hl' _) (k _ rfl)
theorem v_iald' (C : gC X w K nL own d) (i : Nat) {k : Nat} {x : Int32} (hd : K[i]? = some (pc, .iaload, 1)) (hb : aB w.2.2.2.2.1 k .int x = true) (kk : gV X w kc ks Q nL (pc + 1) lv (.int (μ.1 k x.toNatClampNeg) :: st) μ) : gV X w kc ks Q nL pc lv (.int x :: .ref k :: st) μ := by
  obtain ⟨n, h1, h2⟩ := g_aB hb
  exact v_iald C i hd h1 h2 kk
theorem v_bald' (C : gC X w K nL own d) (i : Nat) {k : Nat} {x : Int32} (hd : K[i]? = some (pc, .baload, 1)) (hb : aB w.2.2.2.2.1 k .byte x = true) (kk : gV X w kc ks Q nL (pc + 1) lv (.int (μ.1 k x.toNatClampNeg) :: st) μ) : gV X w kc ks Q nL pc lv (.int x :: .ref k :: st) μ := by
  obtain ⟨n, h1, h2⟩ := g_aB hb
  exact v_bald C i hd h1 h2 kk
theorem v_zald' (C : gC X w K nL own d) (i : Nat) {k : Nat} {x : Int32} (hd : K[i]? = some (pc, .baload, 1)) (hb : aB w.2.2.2.2.1 k .boolean x = true) (kk : gV X w kc ks Q nL (pc + 1) lv (.int (μ.1 k x.toNatClampNeg) :: st) μ) : gV X w kc ks Q nL pc lv (.int x :: .ref k :: st) μ := by
  obtain ⟨n, h1, h2⟩ := g_aB hb
  exact v_zald C i hd h1 h2 kk
theorem v_lald' (C : gC X w K nL own d) (i : Nat) {k : Nat} {x : Int32} (hd : K[i]? = some (pc, .laload, 1)) (hb : aB w.2.2.2.2.1 k .long x = true) (kk : gV X w kc ks Q nL (pc + 1) lv (.long (μ.2.1 k x.toNatClampNeg) :: st) μ) : gV X w kc ks Q nL pc lv (.int x :: .ref k :: st) μ := by
  obtain ⟨n, h1, h2⟩ := g_aB hb
  exact v_lald C i hd h1 h2 kk
theorem v_iast' (C : gC X w K nL own d) (i : Nat) {k : Nat} {x v : Int32} (hd : K[i]? = some (pc, .iastore, 1)) (hb : aB w.2.2.2.2.1 k .int x = true) (kk : gV X w kc ks Q nL (pc + 1) lv st (gsI μ k x.toNatClampNeg v)) : gV X w kc ks Q nL pc lv (.int v :: .int x :: .ref k :: st) μ := by
  obtain ⟨n, h1, h2⟩ := g_aB hb
  exact v_iast C i hd h1 h2 kk
theorem v_bast' (C : gC X w K nL own d) (i : Nat) {k : Nat} {x v : Int32} (hd : K[i]? = some (pc, .bastore, 1)) (hb : aB w.2.2.2.2.1 k .byte x = true) (kk : gV X w kc ks Q nL (pc + 1) lv st (gsI μ k x.toNatClampNeg (vp_nar .byte v))) : gV X w kc ks Q nL pc lv (.int v :: .int x :: .ref k :: st) μ := by
  obtain ⟨n, h1, h2⟩ := g_aB hb
  exact v_bast C i hd h1 h2 kk
theorem v_zast' (C : gC X w K nL own d) (i : Nat) {k : Nat} {x v : Int32} (hd : K[i]? = some (pc, .bastore, 1)) (hb : aB w.2.2.2.2.1 k .boolean x = true) (kk : gV X w kc ks Q nL (pc + 1) lv st (gsI μ k x.toNatClampNeg (vp_nar .boolean v))) : gV X w kc ks Q nL pc lv (.int v :: .int x :: .ref k :: st) μ := by
  obtain ⟨n, h1, h2⟩ := g_aB hb
  exact v_zast C i hd h1 h2 kk
theorem v_last' (C : gC X w K nL own d) (i : Nat) {k : Nat} {x : Int32} {v : Int64} (hd : K[i]? = some (pc, .lastore, 1)) (hb : aB w.2.2.2.2.1 k .long x = true) (kk : gV X w kc ks Q nL (pc + 1) lv st (gsL μ k x.toNatClampNeg v)) : gV X w kc ks Q nL pc lv (.long v :: .int x :: .ref k :: st) μ := by
  obtain ⟨n, h1, h2⟩ := g_aB hb
  exact v_last C i hd h1 h2 kk
end GX
