/-! FIELDS, ARRAYS, CALLS, RETURNS over the flat memory -/
def gCls (ci : Nat) (Cn : String) (T : u_T) (N : Nat) : Prop := vwCl[ci]? = some (Cn, T, N) ∧ N = gN ci ∧ (∀ x ∈ u_ws Cn T N, x ∈ gTb) ∧ (∀ k, k < N → parseFieldDescriptor (T k).2.2.1 = some (gT ci k)) ∧ (∀ a, a < N → ∀ b, b < N → a ≠ b → (T a).2.1 ≠ (T b).2.1)
/-- entry idx of own's pool is place j of class ci -/
def gF (own : String) (idx ci j : Nat) : Prop := ∃ (Cn : String) (T : u_T) (N : Nat), gCls ci Cn T N ∧ j < N ∧ (Cond.fieldLink own idx (T j).1 (T j).2.1 (T j).2.2.1 ∈ gTb ∨ ∃ host, Cond.fieldLinkNest own idx (T j).1 (T j).2.1 (T j).2.2.1 host ∈ gNb)
/-- the same, and the place isn't final -/
def gFw (own : String) (idx ci j : Nat) : Prop := ∃ (Cn : String) (T : u_T) (N : Nat), gCls ci Cn T N ∧ j < N ∧ (T j).2.2.2 = false ∧ (Cond.fieldLink own idx (T j).1 (T j).2.1 (T j).2.2.1 ∈ gTb ∨ ∃ host, Cond.fieldLinkNest own idx (T j).1 (T j).2.1 (T j).2.2.1 host ∈ gNb)
theorem gFw.get {own : String} {idx ci j : Nat} (h : gFw own idx ci j) : gF own idx ci j := by
  obtain ⟨Cn, T, N, h1, h2, -, h3⟩ := h
  exact ⟨Cn, T, N, h1, h2, h3⟩
theorem g_nest {w : Cond} (h : w ∈ gNb) : w.onTables = true := by
  have h1 := (List.mem_filter.mp h).2
  cases w <;> first | rfl | (simp [g_isN] at h1)
def gIt : FieldType → Bool
  | .int => true
  | .boolean => true
  | .byte => true
  | _ => false
def gRt : FieldType → Bool
  | .object _ => true
  | .array _ => true
  | _ => false
theorem g_fvI {ad : Nat → Nat} {μ : gM} {k j : Nat} {ty : FieldType} (h : gIt ty = true) : g_fv ad μ k j ty = .int (μ.1 k j) := by cases ty <;> first | rfl | (simp [gIt] at h)
theorem g_fvR {ad : Nat → Nat} {μ : gM} {k j t : Nat} {ty : FieldType} (h : gRt ty = true) (hr : μ.2.2 k j = some t) : g_fv ad μ k j ty = .ref (ad t) := by cases ty <;> first | (simp [g_fv, hr, va_rf]; done) | (simp [gRt] at h)
section GH
variable {X : gX} {w : gW} {K : gK} {kc ks nL pc d : Nat} {own : String} {Q : State → Prop} {lv lv' : List (Nat × Value)} {st : List Value} {μ : gM}
theorem v_getV (C : gC X w K nL own d) (i : Nat) {idx ci j k : Nat} (hd : K[i]? = some (pc, .getfield idx, 3)) (F : gF own idx ci j) (hs : w.2.2.2.2.1[k]? = some (.inl ci)) {v : Value} (hv : g_fv w.2.2.1 μ k j (gT ci j) = tv w.2.2.1 v) (kk : gV X w kc ks Q nL (pc + 3) lv (v :: st) μ) : gV X w kc ks Q nL pc lv (.ref k :: st) μ := by
  intro H locs ls hP hD hS hl
  obtain ⟨Cn, T, N, ⟨c1, c2, c3, c4, c5⟩, hj, hk⟩ := F
  subst c2
  have hv' : ((List.range (gN ci)).map (fun j => g_fv w.2.2.1 μ k j (gT ci j)))[j]? = some (tv w.2.2.1 v) := by
    simp [hj, hv]
  rcases hk with hk | ⟨host, hk⟩
  · exact va_get C.1 rfl C.2.2.2.2.1 c3 C.2.2.2.1 C.2.2.2.2.2.2.1 hP k (g_wl_at hs) c1 j hj (C.2.2.2.2.1 _ hk) (fun _ h => h) hv' (g_at C i hd) (kk H locs ls hP hD hS hl)
  · exact va_getN C.1 rfl C.2.2.2.2.1 c3 C.2.2.2.1 C.2.2.2.2.2.2.1 hP k (g_wl_at hs) c1 j hj ((C.2.2.2.2.2.1 _ hk).use (g_nest hk)) (fun _ h => h) hv' (g_at C i hd) (kk H locs ls hP hD hS hl)
theorem v_getI (C : gC X w K nL own d) (i : Nat) {idx ci j k : Nat} (hd : K[i]? = some (pc, .getfield idx, 3)) (F : gF own idx ci j) (hs : w.2.2.2.2.1[k]? = some (.inl ci)) (ht : gIt (gT ci j) = true) (kk : gV X w kc ks Q nL (pc + 3) lv (.int (μ.1 k j) :: st) μ) : gV X w kc ks Q nL pc lv (.ref k :: st) μ := v_getV C i hd F hs (v := .int (μ.1 k j)) (g_fvI ht) kk
theorem v_getL (C : gC X w K nL own d) (i : Nat) {idx ci j k : Nat} (hd : K[i]? = some (pc, .getfield idx, 3)) (F : gF own idx ci j) (hs : w.2.2.2.2.1[k]? = some (.inl ci)) (ht : gT ci j = .long) (kk : gV X w kc ks Q nL (pc + 3) lv (.long (μ.2.1 k j) :: st) μ) : gV X w kc ks Q nL pc lv (.ref k :: st) μ := v_getV C i hd F hs (v := .long (μ.2.1 k j)) (by rw [ht]; rfl) kk
theorem v_getR (C : gC X w K nL own d) (i : Nat) {idx ci j k t : Nat} (hd : K[i]? = some (pc, .getfield idx, 3)) (F : gF own idx ci j) (hs : w.2.2.2.2.1[k]? = some (.inl ci)) (ht : gRt (gT ci j) = true) (hr : μ.2.2 k j = some t) (kk : gV X w kc ks Q nL (pc + 3) lv (.ref t :: st) μ) : gV X w kc ks Q nL pc lv (.ref k :: st) μ := v_getV C i hd F hs (v := .ref t) (g_fvR ht hr) kk
theorem v_putV (C : gC X w K nL own d) (i : Nat) {idx ci j k : Nat} {μ' : gM} {v : Value} (hd : K[i]? = some (pc, .putfield idx, 3)) (F : gFw own idx ci j) (hs : w.2.2.2.2.1[k]? = some (.inl ci)) (hn : narrow (gT ci j) (tv w.2.2.1 v) = tv w.2.2.1 v) (hf : fits (gT ci j) (tv w.2.2.1 v) = true)
    (he : ∀ N, N = gN ci → j < N → ((List.range (gN ci)).map (fun j => g_fv w.2.2.1 μ k j (gT ci j))).set j (tv w.2.2.1 v) = (List.range (gN ci)).map (fun j => g_fv w.2.2.1 μ' k j (gT ci j))) (ho : ∀ j, j ≠ k → ∀ y, g_ce w.2.2.1 w.2.1 μ' j y = g_ce w.2.2.1 w.2.1 μ j y)
    (kk : gV X w kc ks Q nL (pc + 3) lv st μ') : gV X w kc ks Q nL pc lv (v :: .ref k :: st) μ := by
  intro H locs ls hP hD hS hl
  obtain ⟨Cn, T, N, ⟨c1, c2, c3, c4, c5⟩, hj, hfin, hk⟩ := F
  have he' := he N c2 hj
  subst c2
  have hset : (gwl w μ).set k (w.2.2.1 k, .inr (ci, ((List.range (gN ci)).map (fun j => g_fv w.2.2.1 μ k j (gT ci j))).set j (tv w.2.2.1 v))) = gwl w μ' := by
    rw [he']
    exact g_wl_set hs rfl ho
  have hlen : j < ((List.range (gN ci)).map (fun j => g_fv w.2.2.1 μ k j (gT ci j))).length := by simpa using hj
  rcases hk with hk | ⟨host, hk⟩
  · refine va_put C.1 rfl C.2.2.2.2.1 c3 (gT ci) c4 c5 C.2.2.2.1 C.2.2.2.2.2.2.1 hP hD hS k (g_wl_at hs) c1 j hj (C.2.2.2.2.1 _ hk) (fun _ h => h) hfin (c4 j hj) hn hf hlen (g_at C i hd) (fun H1 locs1 hP1 hD1 hS1 => ?_)
    exact kk H1 locs1 ls (hset ▸ hP1) (hset ▸ hD1) hS1 hl
  · refine va_putN C.1 rfl C.2.2.2.2.1 c3 (gT ci) c4 c5 C.2.2.2.1 C.2.2.2.2.2.2.1 hP hD hS k (g_wl_at hs) c1 j hj ((C.2.2.2.2.2.1 _ hk).use (g_nest hk)) (fun _ h => h) hfin (c4 j hj) hn hf hlen (g_at C i hd) (fun H1 locs1 hP1 hD1 hS1 => ?_)
    exact kk H1 locs1 ls (hset ▸ hP1) (hset ▸ hD1) hS1 hl
theorem v_putI (C : gC X w K nL own d) (i : Nat) {idx ci j k : Nat} {v : Int32} (hd : K[i]? = some (pc, .putfield idx, 3)) (F : gFw own idx ci j) (hs : w.2.2.2.2.1[k]? = some (.inl ci)) (ht : gT ci j = .int) (kk : gV X w kc ks Q nL (pc + 3) lv st (gsI μ k j v)) : gV X w kc ks Q nL pc lv (.int v :: .ref k :: st) μ :=
  v_putV C i hd F hs (v := .int v) (by rw [ht]; rfl) (by rw [ht]; rfl) (fun N hN hj => g_fsI (hN ▸ hj) (by rw [ht]; simp [g_fv, gsI])) g_oI kk
theorem v_putZ (C : gC X w K nL own d) (i : Nat) {idx ci j k : Nat} {v : Int32} (hd : K[i]? = some (pc, .putfield idx, 3)) (F : gFw own idx ci j) (hs : w.2.2.2.2.1[k]? = some (.inl ci)) (ht : gT ci j = .boolean) (h01 : v = 0 ∨ v = 1) (kk : gV X w kc ks Q nL (pc + 3) lv st (gsI μ k j v)) : gV X w kc ks Q nL pc lv (.int v :: .ref k :: st) μ :=
  v_putV C i hd F hs (v := .int v) (by rw [ht]; rcases h01 with rfl | rfl; exact (by decide +kernel : narrow FieldType.boolean (Value.int 0) = Value.int 0); exact (by decide +kernel : narrow FieldType.boolean (Value.int 1) = Value.int 1)) (by rw [ht]; rcases h01 with rfl | rfl; exact (by decide +kernel : fits FieldType.boolean (Value.int 0) = true); exact (by decide +kernel : fits FieldType.boolean (Value.int 1) = true)) (fun N hN hj => g_fsI (hN ▸ hj) (by rw [ht]; simp [g_fv, gsI])) g_oI kk
theorem v_putL (C : gC X w K nL own d) (i : Nat) {idx ci j k : Nat} {v : Int64} (hd : K[i]? = some (pc, .putfield idx, 3)) (F : gFw own idx ci j) (hs : w.2.2.2.2.1[k]? = some (.inl ci)) (ht : gT ci j = .long) (kk : gV X w kc ks Q nL (pc + 3) lv st (gsL μ k j v)) : gV X w kc ks Q nL pc lv (.long v :: .ref k :: st) μ :=
  v_putV C i hd F hs (v := .long v) (by rw [ht]; rfl) (by rw [ht]; rfl) (fun N hN hj => g_fsL (hN ▸ hj) (by rw [ht]; simp [g_fv, gsL])) g_oL kk
theorem v_putR (C : gC X w K nL own d) (i : Nat) {idx ci j k t : Nat} (hd : K[i]? = some (pc, .putfield idx, 3)) (F : gFw own idx ci j) (hs : w.2.2.2.2.1[k]? = some (.inl ci)) (ht : gRt (gT ci j) = true) (kk : gV X w kc ks Q nL (pc + 3) lv st (gsR μ k j (some t))) : gV X w kc ks Q nL pc lv (.ref t :: .ref k :: st) μ := by
  have h1 : narrow (gT ci j) (.ref (w.2.2.1 t)) = .ref (w.2.2.1 t) := by revert ht; cases gT ci j <;> intro ht <;> first | rfl | (simp [gRt] at ht)
  have h2 : fits (gT ci j) (.ref (w.2.2.1 t)) = true := by revert ht; cases gT ci j <;> intro ht <;> first | rfl | (simp [gRt] at ht)
  exact v_putV C i hd F hs (v := .ref t) h1 h2 (fun N hN hj => g_fsR (hN ▸ hj) (g_fvR ht (by simp [gsR]))) g_oR kk
/-! arrays -/
theorem g_tyI (cA : FieldType → ClassId) : (g_tys cA)[0]? = some (cA .int, .int) := rfl
theorem v_iald (C : gC X w K nL own d) (i : Nat) {k n : Nat} {x : Int32} (hd : K[i]? = some (pc, .iaload, 1)) (hs : w.2.2.2.2.1[k]? = some (.inr (.int, n))) (hin : vp_in x n) (kk : gV X w kc ks Q nL (pc + 1) lv (.int (μ.1 k x.toNatClampNeg) :: st) μ) : gV X w kc ks Q nL pc lv (.int x :: .ref k :: st) μ := fun H locs ls hP hD hS hl =>
  va_iald C.1 rfl C.2.2.2.2.2.2.1 hP k 0 (g_wl_at hs) rfl hin (g_at C i hd) (kk H locs ls hP hD hS hl)
theorem v_bald (C : gC X w K nL own d) (i : Nat) {k n : Nat} {x : Int32} (hd : K[i]? = some (pc, .baload, 1)) (hs : w.2.2.2.2.1[k]? = some (.inr (.byte, n))) (hin : vp_in x n) (kk : gV X w kc ks Q nL (pc + 1) lv (.int (μ.1 k x.toNatClampNeg) :: st) μ) : gV X w kc ks Q nL pc lv (.int x :: .ref k :: st) μ := fun H locs ls hP hD hS hl =>
  va_bald C.1 rfl C.2.2.2.2.2.2.1 hP k 2 (g_wl_at hs) rfl hin (g_at C i hd) (kk H locs ls hP hD hS hl)
theorem v_zald (C : gC X w K nL own d) (i : Nat) {k n : Nat} {x : Int32} (hd : K[i]? = some (pc, .baload, 1)) (hs : w.2.2.2.2.1[k]? = some (.inr (.boolean, n))) (hin : vp_in x n) (kk : gV X w kc ks Q nL (pc + 1) lv (.int (μ.1 k x.toNatClampNeg) :: st) μ) : gV X w kc ks Q nL pc lv (.int x :: .ref k :: st) μ := fun H locs ls hP hD hS hl =>
  va_zald C.1 rfl C.2.2.2.2.2.2.1 hP k 3 (g_wl_at hs) rfl hin (g_at C i hd) (kk H locs ls hP hD hS hl)
theorem v_lald (C : gC X w K nL own d) (i : Nat) {k n : Nat} {x : Int32} (hd : K[i]? = some (pc, .laload, 1)) (hs : w.2.2.2.2.1[k]? = some (.inr (.long, n))) (hin : vp_in x n) (kk : gV X w kc ks Q nL (pc + 1) lv (.long (μ.2.1 k x.toNatClampNeg) :: st) μ) : gV X w kc ks Q nL pc lv (.int x :: .ref k :: st) μ := fun H locs ls hP hD hS hl =>
  va_lald C.1 rfl C.2.2.2.2.2.2.1 hP k 1 (g_wl_at hs) rfl hin (g_at C i hd) (kk H locs ls hP hD hS hl)
theorem v_alen (C : gC X w K nL own d) (i : Nat) {k n : Nat} {ty : FieldType} (v : Int32) (hd : K[i]? = some (pc, .arraylength, 1)) (hs : w.2.2.2.2.1[k]? = some (.inr (ty, n))) (ht : ty = .int ∨ ty = .byte) (hv : Int32.ofNat n = v) (kk : gV X w kc ks Q nL (pc + 1) lv (.int v :: st) μ) : gV X w kc ks Q nL pc lv (.ref k :: st) μ := fun H locs ls hP hD hS hl => by
  rcases ht with rfl | rfl
  · exact va_alen C.1 rfl C.2.2.2.2.2.2.1 hP k 0 (g_wl_at hs) rfl hv (g_at C i hd) (kk H locs ls hP hD hS hl)
  · exact va_alen C.1 rfl C.2.2.2.2.2.2.1 hP k 2 (g_wl_at hs) rfl hv (g_at C i hd) (kk H locs ls hP hD hS hl)
theorem g_upI {μ : gM} {k j : Nat} {v : Int32} : (gsI μ k j v).1 k = upd (μ.1 k) j v := by
  funext b
  simp [gsI, upd]
theorem g_upL {μ : gM} {k j : Nat} {v : Int64} : (gsL μ k j v).2.1 k = vp_updL (μ.2.1 k) j v := by
  funext b
  simp [gsL, vp_updL]
theorem v_iast (C : gC X w K nL own d) (i : Nat) {k n : Nat} {x v : Int32} (hd : K[i]? = some (pc, .iastore, 1)) (hs : w.2.2.2.2.1[k]? = some (.inr (.int, n))) (hin : vp_in x n) (kk : gV X w kc ks Q nL (pc + 1) lv st (gsI μ k x.toNatClampNeg v)) : gV X w kc ks Q nL pc lv (.int v :: .int x :: .ref k :: st) μ := fun H locs ls hP hD hS hl => by
  have hset : (gwl w μ).set k (w.2.2.1 k, .inl (w.2.1 .int, n, .inl (upd (μ.1 k) x.toNatClampNeg v))) = gwl w (gsI μ k x.toNatClampNeg v) := g_wl_set hs (by simp only [g_ce, g_ar, g_upI]) g_oI
  refine va_iast C.1 rfl C.2.2.2.2.2.2.1 hP hD hS k 0 (g_wl_at hs) rfl hin (g_at C i hd) (fun H1 locs1 hP1 hD1 hS1 => ?_)
  exact kk H1 locs1 ls (hset ▸ hP1) (hset ▸ hD1) hS1 hl
theorem v_bast (C : gC X w K nL own d) (i : Nat) {k n : Nat} {x v : Int32} (hd : K[i]? = some (pc, .bastore, 1)) (hs : w.2.2.2.2.1[k]? = some (.inr (.byte, n))) (hin : vp_in x n) (kk : gV X w kc ks Q nL (pc + 1) lv st (gsI μ k x.toNatClampNeg (vp_nar .byte v))) : gV X w kc ks Q nL pc lv (.int v :: .int x :: .ref k :: st) μ := fun H locs ls hP hD hS hl => by
  have hset : (gwl w μ).set k (w.2.2.1 k, .inl (w.2.1 .byte, n, .inl (upd (μ.1 k) x.toNatClampNeg (vp_nar .byte v)))) = gwl w (gsI μ k x.toNatClampNeg (vp_nar .byte v)) := g_wl_set hs (by simp only [g_ce, g_ar, g_upI]) g_oI
  refine va_bast C.1 rfl C.2.2.2.2.2.2.1 hP hD hS k 2 (g_wl_at hs) rfl hin (g_at C i hd) (fun H1 locs1 hP1 hD1 hS1 => ?_)
  exact kk H1 locs1 ls (hset ▸ hP1) (hset ▸ hD1) hS1 hl
theorem v_zast (C : gC X w K nL own d) (i : Nat) {k n : Nat} {x v : Int32} (hd : K[i]? = some (pc, .bastore, 1)) (hs : w.2.2.2.2.1[k]? = some (.inr (.boolean, n))) (hin : vp_in x n) (kk : gV X w kc ks Q nL (pc + 1) lv st (gsI μ k x.toNatClampNeg (vp_nar .boolean v))) : gV X w kc ks Q nL pc lv (.int v :: .int x :: .ref k :: st) μ := fun H locs ls hP hD hS hl => by
  have hset : (gwl w μ).set k (w.2.2.1 k, .inl (w.2.1 .boolean, n, .inl (upd (μ.1 k) x.toNatClampNeg (vp_nar .boolean v)))) = gwl w (gsI μ k x.toNatClampNeg (vp_nar .boolean v)) := g_wl_set hs (by simp only [g_ce, g_ar, g_upI]) g_oI
  refine va_zast C.1 rfl C.2.2.2.2.2.2.1 hP hD hS k 3 (g_wl_at hs) rfl hin (g_at C i hd) (fun H1 locs1 hP1 hD1 hS1 => ?_)
  exact kk H1 locs1 ls (hset ▸ hP1) (hset ▸ hD1) hS1 hl
theorem v_last (C : gC X w K nL own d) (i : Nat) {k n : Nat} {x : Int32} {v : Int64} (hd : K[i]? = some (pc, .lastore, 1)) (hs : w.2.2.2.2.1[k]? = some (.inr (.long, n))) (hin : vp_in x n) (kk : gV X w kc ks Q nL (pc + 1) lv st (gsL μ k x.toNatClampNeg v)) : gV X w kc ks Q nL pc lv (.long v :: .int x :: .ref k :: st) μ := fun H locs ls hP hD hS hl => by
  have hset : (gwl w μ).set k (w.2.2.1 k, .inl (w.2.1 .long, n, .inr (.inl (vp_updL (μ.2.1 k) x.toNatClampNeg v)))) = gwl w (gsL μ k x.toNatClampNeg v) := g_wl_set hs (by simp only [g_ce, g_ar, g_upL]) g_oL
  refine va_last C.1 rfl C.2.2.2.2.2.2.1 hP hD hS k 1 (g_wl_at hs) rfl hin (g_at C i hd) (fun H1 locs1 hP1 hD1 hS1 => ?_)
  exact kk H1 locs1 ls (hset ▸ hP1) (hset ▸ hD1) hS1 hl
end GH
