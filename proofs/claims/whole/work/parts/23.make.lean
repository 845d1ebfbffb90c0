/-! MAKING CELLS: the world grows; a cell's number is the number of cells before it -/
def gz (μ : gM) (n : Nat) : gM := (fun a b => if a = n then 0 else μ.1 a b, fun a b => if a = n then 0 else μ.2.1 a b, fun a b => if a = n then none else μ.2.2 a b)
def gWf (sh : List gS) (μ : gM) : Prop := ∀ k j t, μ.2.2 k j = some t → t < sh.length
def gEx (w w' : gW) : Prop := w'.1 = w.1 ∧ w'.2.1 = w.2.1 ∧ w'.2.2.2.1 = w.2.2.2.1 ∧ w'.2.2.2.2.2 = w.2.2.2.2.2 ∧ (∀ k, k < w.2.2.2.2.1.length ∨ 1000000 ≤ k → w'.2.2.1 k = w.2.2.1 k) ∧ w.2.2.2.2.1 <+: w'.2.2.2.2.1
def gLv (n : Nat) (lv : List (Nat × Value)) : Prop := ∀ q ∈ lv, ∀ t, q.2 = .ref t → t < n ∨ 1000000 ≤ t
def gLs (n : Nat) (st : List Value) : Prop := ∀ v ∈ st, ∀ t, v = .ref t → t < n ∨ 1000000 ≤ t
theorem gEx.refl (w : gW) : gEx w w := ⟨rfl, rfl, rfl, rfl, fun _ _ => rfl, List.prefix_rfl⟩
theorem gEx.trans {a b c : gW} (h : gEx a b) (k : gEx b c) : gEx a c := by
  obtain ⟨h1, h2, h3, h4, h5, h6⟩ := h
  obtain ⟨k1, k2, k3, k4, k5, k6⟩ := k
  refine ⟨k1.trans h1, k2.trans h2, k3.trans h3, k4.trans h4, fun n hn => ?_, h6.trans k6⟩
  rw [k5 n, h5 n hn]
  rcases hn with hn | hn
  · exact Or.inl (Nat.lt_of_lt_of_le hn h6.length_le)
  · exact Or.inr hn
theorem gEx.A {w w' : gW} (h : gEx w w') : gA w' = gA w := by
  unfold gA
  rw [h.2.2.1]
theorem gEx.at {w w' : gW} (h : gEx w w') {k : Nat} {x : gS} (hk : w.2.2.2.2.1[k]? = some x) : w'.2.2.2.2.1[k]? = some x := by
  obtain ⟨t, ht⟩ := h.2.2.2.2.2
  rw [← ht, List.getElem?_append_left (List.getElem?_eq_some_iff.mp hk).1]
  exact hk
theorem gC.ext {X : gX} {w w' : gW} {K : gK} {nL d : Nat} {own : String} (C : gC X w K nL own d) (h : gEx w w') : gC X w' K nL own d := by
  obtain ⟨a1, a2, a3, a4, a5, a6, a7, a8, a9, a10, a11, a12⟩ := C
  refine ⟨a1, a2, a3, a4, a5, a6, ?_, a8, a9, a10, ?_, ?_⟩
  · rw [h.1, h.2.1]
    exact a7
  · rw [h.2.2.2.1]
    exact a11
  · rw [h.A, h.2.2.2.1]
    exact a12
theorem gJok.ext {w w' : gW} (C : gJok w) (h : gEx w w') : gJok w' := by
  unfold gJok at C ⊢
  rw [h.A, h.2.2.2.1]
  exact C
theorem g_tvE {ad ad' : Nat → Nat} {n : Nat} (h : ∀ k, k < n ∨ 1000000 ≤ k → ad' k = ad k) {v : Value} (hv : ∀ t, v = .ref t → t < n ∨ 1000000 ≤ t) : tv ad' v = tv ad v := by
  cases v <;> first | rfl | (rename_i t; show Value.ref (ad' t) = Value.ref (ad t); rw [h t (hv t rfl)])
theorem g_stE {ad ad' : Nat → Nat} {n : Nat} (h : ∀ k, k < n ∨ 1000000 ≤ k → ad' k = ad k) {st : List Value} (hs : gLs n st) : st.map (tv ad') = st.map (tv ad) := List.map_congr_left fun v hv => g_tvE h (hs v hv)
theorem g_lvE {ad ad' : Nat → Nat} {n : Nat} (h : ∀ k, k < n ∨ 1000000 ≤ k → ad' k = ad k) {lv : List (Nat × Value)} (hs : gLv n lv) : lv.map (tvp ad') = lv.map (tvp ad) := List.map_congr_left fun q hq => by
  unfold tvp
  rw [g_tvE h (hs q hq)]
theorem g_fvE {ad ad' : Nat → Nat} {n : Nat} (h : ∀ k, k < n ∨ 1000000 ≤ k → ad' k = ad k) {μ : gM} (hw : ∀ k j t, μ.2.2 k j = some t → t < n) (k j : Nat) (ty : FieldType) : g_fv ad' μ k j ty = g_fv ad μ k j ty := by
  have key : (μ.2.2 k j).map ad' = (μ.2.2 k j).map ad := by
    cases hq : μ.2.2 k j with
    | none => rfl
    | some t =>
      show some (ad' t) = some (ad t)
      rw [h t (Or.inl (hw k j t hq))]
  cases ty <;> first | rfl | (simp only [g_fv, key])
theorem g_ceE {ad ad' : Nat → Nat} {n : Nat} (h : ∀ k, k < n ∨ 1000000 ≤ k → ad' k = ad k) {cA : FieldType → ClassId} {μ : gM} (hw : ∀ k j t, μ.2.2 k j = some t → t < n) (k : Nat) (x : gS) : g_ce ad' cA μ k x = g_ce ad cA μ k x := by
  cases x with
  | inl ci => simp only [g_ce, g_fvE h hw]
  | inr q => rfl
theorem g_wlE {ad ad' : Nat → Nat} {cA : FieldType → ClassId} {sh : List gS} {μ : gM} (h : ∀ k, k < sh.length ∨ 1000000 ≤ k → ad' k = ad k) (hw : gWf sh μ) : g_wl ad' cA sh μ = g_wl ad cA sh μ := by
  unfold g_wl
  apply List.map_congr_left
  intro k hk
  rw [h k (Or.inl (List.mem_range.mp hk)), g_ceE h hw]
theorem g_wl_app {ad : Nat → Nat} {cA : FieldType → ClassId} {sh : List gS} {μ : gM} {x : gS} : g_wl ad cA (sh ++ [x]) μ = g_wl ad cA sh μ ++ [(ad sh.length, g_ce ad cA μ sh.length x)] := by
  apply List.ext_getElem?
  intro i
  rcases Nat.lt_trichotomy i sh.length with hi | hi | hi
  · have h1 : (sh ++ [x])[i]? = some sh[i] := by rw [List.getElem?_append_left hi, List.getElem?_eq_getElem hi]
    rw [g_wl_at h1, List.getElem?_append_left (by rw [g_wl_len]; exact hi), g_wl_at (List.getElem?_eq_getElem hi)]
  · subst hi
    have h1 : (sh ++ [x])[sh.length]? = some x := by simp
    rw [g_wl_at h1, List.getElem?_append_right (by rw [g_wl_len]; exact Nat.le_refl _), g_wl_len]
    simp
  · rw [List.getElem?_eq_none (by rw [g_wl_len, List.length_append]; simp; omega), List.getElem?_eq_none (by rw [List.length_append, g_wl_len]; simp; omega)]
theorem g_wl_z {ad : Nat → Nat} {cA : FieldType → ClassId} {sh : List gS} {μ : gM} : g_wl ad cA sh (gz μ sh.length) = g_wl ad cA sh μ := by
  unfold g_wl
  apply List.map_congr_left
  intro k hk
  have hk' : k ≠ sh.length := Nat.ne_of_lt (List.mem_range.mp hk)
  rw [g_ce_ne (μ := μ) (μ' := gz μ sh.length) (by funext b; simp [gz, hk']) (by funext b; simp [gz, hk']) (by funext b; simp [gz, hk'])]
theorem gWf.z {sh : List gS} {μ : gM} (h : gWf sh μ) (x : gS) : gWf (sh ++ [x]) (gz μ sh.length) := by
  intro k j t hk
  by_cases hn : k = sh.length
  · simp [gz, hn] at hk
  · simp only [gz, if_neg hn] at hk
    have := h k j t hk
    rw [List.length_append]
    exact Nat.lt_add_right _ this
theorem gWf.r {sh : List gS} {μ : gM} (h : gWf sh μ) {k j t : Nat} (ht : t < sh.length) : gWf sh (gsR μ k j (some t)) := by
  intro a b c hc
  unfold gsR at hc
  dsimp only at hc
  split at hc
  · cases hc
    exact ht
  · exact h a b c hc
theorem gWf.i {sh : List gS} {μ : gM} (h : gWf sh μ) {k j : Nat} {v : Int32} : gWf sh (gsI μ k j v) := h
theorem gWf.l {sh : List gS} {μ : gM} (h : gWf sh μ) {k j : Nat} {v : Int64} : gWf sh (gsL μ k j v) := h
theorem g_olt {sh : List gS} {k ci : Nat} (h : oB sh k ci = true) : k < sh.length := (List.getElem?_eq_some_iff.mp (g_oB h)).1
section GMAKE
variable {X : gX} {w : gW} {K : gK} {kc ks nL pc d : Nat} {own : String} {Q : State → Prop} {lv lv' : List (Nat × Value)} {st : List Value} {μ : gM}
/-- the world with one cell more -/
theorem g_grow {H1 : Heap} {q : Nat} {x : gS} {locs : List Loc} {ls : Array Slot} (hwf : gWf w.2.2.2.2.1 μ) (hlv : gLv w.2.2.2.2.1.length lv) (hst : gLs w.2.2.2.2.1.length st) (h6 : w.2.2.2.2.1.length < 1000000)
    (he : ∀ ad, g_ce ad w.2.1 (gz μ w.2.2.2.2.1.length) w.2.2.2.2.1.length x = g_ce w.2.2.1 w.2.1 (gz μ w.2.2.2.2.1.length) w.2.2.2.2.1.length x)
    (hP : va_P w.1 vwCl (gwl w μ ++ [(q, g_ce w.2.2.1 w.2.1 (gz μ w.2.2.2.2.1.length) w.2.2.2.2.1.length x)]) H1) (hD : va_D (gA w) (gwl w μ ++ [(q, g_ce w.2.2.1 w.2.1 (gz μ w.2.2.2.2.1.length) w.2.2.2.2.1.length x)])) (hS : va_S (gA w) X.2.2.2.2.1.heap H1 locs) (hl : lv_has ls nL (lv.map (tvp w.2.2.1)))
    (kk : ∀ w', gEx w w' → w'.2.2.2.2.1 = w.2.2.2.2.1 ++ [x] → gV X w' kc ks Q nL pc lv (.ref w.2.2.2.2.1.length :: st) (gz μ w.2.2.2.2.1.length)) :
    W X.1 X.2.1 X.2.2.1 X.2.2.2.1 X.2.2.2.2.1 X.2.2.2.2.2.1 X.2.2.2.2.2.2.1 X.2.2.2.2.2.2.2.1 X.2.2.2.2.2.2.2.2.1 X.2.2.2.2.2.2.2.2.2 H1 locs kc ks Q (F0 X.2.2.2.2.2.1 pc ls (.ref q :: st.map (tv w.2.2.1))) := by
  obtain ⟨ad', had⟩ : ∃ ad' : Nat → Nat, ad' = fun k => if k = w.2.2.2.2.1.length then q else w.2.2.1 k := ⟨_, rfl⟩
  have hq : ad' w.2.2.2.2.1.length = q := by rw [had]; simp
  have hag : ∀ k, k < w.2.2.2.2.1.length ∨ 1000000 ≤ k → ad' k = w.2.2.1 k := by
    intro k hk
    rw [had]
    have hne : k ≠ w.2.2.2.2.1.length := by omega
    simp [hne]
  obtain ⟨w', hw'⟩ : ∃ w' : gW, w' = (w.1, w.2.1, ad', w.2.2.2.1, w.2.2.2.2.1 ++ [x], w.2.2.2.2.2) := ⟨_, rfl⟩
  have hex : gEx w w' := by rw [hw']; exact ⟨rfl, rfl, rfl, rfl, hag, List.prefix_append _ _⟩
  have hsh : w'.2.2.2.2.1 = w.2.2.2.2.1 ++ [x] := by rw [hw']
  have hwl : gwl w' (gz μ w.2.2.2.2.1.length) = gwl w μ ++ [(q, g_ce w.2.2.1 w.2.1 (gz μ w.2.2.2.2.1.length) w.2.2.2.2.1.length x)] := by
    rw [hw']
    show g_wl ad' w.2.1 (w.2.2.2.2.1 ++ [x]) (gz μ w.2.2.2.2.1.length) = g_wl w.2.2.1 w.2.1 w.2.2.2.2.1 μ ++ _
    rw [g_wl_app, g_wl_z, g_wlE hag hwf, hq, he ad']
  have hk := kk w' hex hsh H1 locs ls (by rw [hwl, hex.1]; exact hP) (by rw [hwl, hex.A]; exact hD) (by rw [hex.A]; exact hS) (by
    have e1 : w'.2.2.1 = ad' := by rw [hw']
    rw [e1, g_lvE hag hlv]
    exact hl)
  have e1 : w'.2.2.1 = ad' := by rw [hw']
  have e2 : (Value.ref w.2.2.2.2.1.length :: st).map (tv w'.2.2.1) = .ref q :: st.map (tv w.2.2.1) := by
    rw [e1, List.map_cons, g_stE hag hst]
    show Value.ref (ad' _) :: _ = _
    rw [hq]
  rw [e2] at hk
  exact hk
theorem v_newa (C : gC X w K nL own d) (i : Nat) {aty : ArrayType} {ty : FieldType} {x : Int32} (N : Nat) (hd : K[i]? = some (pc, .newarray aty, 2)) (hty : newarray.typeOf aty = ty) (hp : ty = .int ∨ ty = .long ∨ ty = .byte ∨ ty = .boolean) (harr : Cond.arrayClass ty ∈ gTb) (hn : ¬ x < 0) (hN : x.toNatClampNeg = N) (hb : N ≤ 8000)
    (hwf : gWf w.2.2.2.2.1 μ) (hlv : gLv w.2.2.2.2.1.length lv) (hst : gLs w.2.2.2.2.1.length st) (h6 : w.2.2.2.2.1.length < 1000000) (hA : w.2.2.2.1 ≤ X.2.2.2.2.1.heap.size) (hroom : kc + 1 ≤ X.2.2.2.1.cells ∧ ks + N ≤ X.2.2.2.1.slots)
    (kk : ∀ w', gEx w w' → w'.2.2.2.2.1 = w.2.2.2.2.1 ++ [.inr (ty, N)] → gV X w' (kc + 1) (ks + N) Q nL (pc + 2) lv (.ref w.2.2.2.2.1.length :: st) (gz μ w.2.2.2.2.1.length)) : gV X w kc ks Q nL pc lv (.int x :: st) μ := by
  intro H locs ls hP hD hS hl
  have hga : (g_ar (gz μ w.2.2.2.2.1.length) w.2.2.2.2.1.length ty) = g_ar (gz μ w.2.2.2.2.1.length) w.2.2.2.2.1.length ty := rfl
  have hcell : ∀ cA : ClassId, vp_cell cA (N, g_ar (gz μ w.2.2.2.2.1.length) w.2.2.2.2.1.length ty) = arrV cA N (fun _ => defaultValue ty) := by
    intro cA
    rcases hp with rfl | rfl | rfl | rfl <;> simp [g_ar, gz, vp_cell] <;> rfl
  have hcb : componentBytes ty ≤ 8 := by rcases hp with rfl | rfl | rfl | rfl <;> decide
  have hmul : N * componentBytes ty ≤ 8000 * 8 := Nat.mul_le_mul hb hcb
  refine va_newa (tys := g_tys w.2.1) (a0 := (N, g_ar (gz μ w.2.2.2.2.1.length) w.2.2.2.2.1.length ty)) C.1 rfl (by rw [hty]; exact C.2.2.2.2.1 _ harr) hty C.2.2.2.2.2.2.1 hP hD hS (fun q h => Nat.le_trans hA h) hcell hn hN (by omega) hroom.1 hroom.2 (g_at C i hd) (fun q cA H1 hK1 hP1 hD1 hS1 => ?_)
  have hcA : cA = w.2.1 ty := by
    have h1 := (hK1.2 4 (cA, ty) (by simp [g_tys])).2
    have h2 : va_RA X.2.2.2.2.1 (w.2.1 ty) ty := by
      rcases hp with rfl | rfl | rfl | rfl
      · exact (C.2.2.2.2.2.2.1.2 0 _ rfl).2
      · exact (C.2.2.2.2.2.2.1.2 1 _ rfl).2
      · exact (C.2.2.2.2.2.2.1.2 2 _ rfl).2
      · exact (C.2.2.2.2.2.2.1.2 3 _ rfl).2
    rcases hp with rfl | rfl | rfl | rfl <;> exact Option.some.inj (h1.symm.trans h2)
  subst hcA
  exact g_grow (x := .inr (ty, N)) hwf hlv hst h6 (fun ad => rfl) hP1 hD1 hS1 hl kk
theorem v_new (C : gC X w K nL own d) (i : Nat) {idx ci : Nat} {Cn : String} {T : u_T} {N : Nat} (hd : K[i]? = some (pc, .new idx, 3)) (hcl : gCls ci Cn T N) (hw : Cond.classLink own idx Cn ∈ gTb ∧ Cond.instantiable Cn N ∈ gTb ∧ Cond.initialized Cn ∈ gTb) (hci : ci < 9)
    (hwf : gWf w.2.2.2.2.1 μ) (hlv : gLv w.2.2.2.2.1.length lv) (hst : gLs w.2.2.2.2.1.length st) (h6 : w.2.2.2.2.1.length < 1000000) (hA : w.2.2.2.1 ≤ X.2.2.2.2.1.heap.size) (hroom : kc + 1 ≤ X.2.2.2.1.cells ∧ ks + N ≤ X.2.2.2.1.slots)
    (kk : ∀ w', gEx w w' → w'.2.2.2.2.1 = w.2.2.2.2.1 ++ [.inl ci] → gV X w' (kc + 1) (ks + N) Q nL (pc + 3) lv (.ref w.2.2.2.2.1.length :: st) (gz μ w.2.2.2.2.1.length)) : gV X w kc ks Q nL pc lv st μ := by
  intro H locs ls hP hD hS hl
  obtain ⟨c1, c2, c3, c4, c5⟩ := hcl
  have hz : ∀ ad, ∀ j ty, g_fv ad (gz μ w.2.2.2.2.1.length) w.2.2.2.2.1.length j ty = g_fv w.2.2.1 (gz μ w.2.2.2.2.1.length) w.2.2.2.2.1.length j ty := by
    intro ad j ty
    cases ty <;> simp [g_fv, gz]
  refine va_new (fs := (List.range (gN ci)).map (fun j => g_fv w.2.2.1 (gz μ w.2.2.2.2.1.length) w.2.2.2.2.1.length j (gT ci j))) C.1 rfl C.2.2.2.2.1 c3 (gT ci) c4 C.2.2.2.1 (C.2.2.2.2.1 _ hw.1) (C.2.2.2.2.1 _ hw.2.1) (C.2.2.2.2.1 _ hw.2.2) C.2.2.2.2.2.2.1 hP hD hS (fun q h => Nat.le_trans hA h) c1 (fun j hj => ?_) hroom.1 hroom.2 (g_at C i hd) (fun q H1 hP1 hD1 hS1 => ?_)
  · have hj' : j < gN ci := by rw [← c2]; exact hj
    have h1 : ((List.range (gN ci)).map (fun j => g_fv w.2.2.1 (gz μ w.2.2.2.2.1.length) w.2.2.2.2.1.length j (gT ci j))).getD j .null = g_fv w.2.2.1 (gz μ w.2.2.2.2.1.length) w.2.2.2.2.1.length j (gT ci j) := by
      simp [List.getD_eq_getElem?_getD, hj']
    unfold vp_V
    rw [h1]
    have hok : gIt (gT ci j) = true ∨ gT ci j = .long ∨ gRt (gT ci j) = true := by
      have key : ∀ ci, ci < 9 → ∀ j, j < gN ci → gIt (gT ci j) = true ∨ gT ci j = .long ∨ gRt (gT ci j) = true := by decide +kernel
      exact key ci hci j hj'
    revert hok
    cases gT ci j <;> intro hok <;> first | (simp [g_fv, gz, va_rf]; rfl) | (simp [gIt, gRt] at hok)
  · exact g_grow (x := .inl ci) hwf hlv hst h6 (fun ad => by simp only [g_ce, hz ad]) hP1 hD1 hS1 hl kk
theorem v_putF (C : gC X w K nL own d) (hin : X.2.2.2.2.2.2.2.2.1.name = "<init>") (i : Nat) {idx ci j k t : Nat} {Cn : String} {T : u_T} {N : Nat} (hd : K[i]? = some (pc, .putfield idx, 3)) (hcl : gCls ci Cn T N) (hj : j < N) (hfin : (T j).2.2.2 = true) (hown : (T j).1 = own) (hk : Cond.fieldLink own idx (T j).1 (T j).2.1 (T j).2.2.1 ∈ gTb) (hs : w.2.2.2.2.1[k]? = some (.inl ci)) (ht : gRt (gT ci j) = true)
    (kk : gV X w kc ks Q nL (pc + 3) lv st (gsR μ k j (some t))) : gV X w kc ks Q nL pc lv (.ref t :: .ref k :: st) μ := by
  intro H locs ls hP hD hS hl
  obtain ⟨c1, c2, c3, c4, c5⟩ := hcl
  subst c2
  have h1 : narrow (gT ci j) (.ref (w.2.2.1 t)) = .ref (w.2.2.1 t) := by revert ht; cases gT ci j <;> intro ht <;> first | rfl | (simp [gRt] at ht)
  have h2 : fits (gT ci j) (.ref (w.2.2.1 t)) = true := by revert ht; cases gT ci j <;> intro ht <;> first | rfl | (simp [gRt] at ht)
  have hset : (gwl w μ).set k (w.2.2.1 k, .inr (ci, ((List.range (gN ci)).map (fun j => g_fv w.2.2.1 μ k j (gT ci j))).set j (.ref (w.2.2.1 t)))) = gwl w (gsR μ k j (some t)) := by
    rw [g_fsR (v := some t) hj (g_fvR ht (by simp [gsR]))]
    exact g_wl_set hs rfl g_oR
  refine va_putF C.1 rfl C.2.2.2.2.1 c3 (gT ci) c4 c5 C.2.2.2.1 C.2.2.2.2.2.2.1 hP hD hS k (g_wl_at hs) c1 j hj (C.2.2.2.2.1 _ hk) (fun _ h => h) hfin hin hown (c4 j hj) h1 h2 (by simpa using hj) (g_at C i hd) (fun H1 locs1 hP1 hD1 hS1 => ?_)
  exact kk H1 locs1 ls (hset ▸ hP1) (hset ▸ hD1) hS1 hl
theorem v_objInit (C : gC X w K nL own d) (i : Nat) {idx k : Nat} (hd : K[i]? = some (pc, .invokespecial idx, 3)) (hk : Cond.methodLink own idx objectInit ∈ gTb) (h1 : Cond.instanceMethod objectInit ∈ gTb) (h2 : Cond.code objectInit ⟨#[0xb1]⟩ 1 none ∈ gTb) (hd1 : 1 ≤ d) (hst : (st.map fun v => v.category).sum ≤ 8) (kk : gV X w kc ks Q nL (pc + 3) lv st μ) : gV X w kc ks Q nL pc lv (.ref k :: st) μ := by
  intro H locs ls hP hD hS hl
  have a1 := C.2.2.2.2.2.2.2.2.1
  have a2 := C.2.2.2.2.2.2.2.2.2.1
  have a3 : 2 * (F0 X.2.2.2.2.2.1 pc ls ((Value.ref k :: st).map (tv w.2.2.1))).monitorRoom + ((st.map (tv w.2.2.1)).map fun v => v.category).sum ≤ 8 := lv_room (by rw [g_lenmap]; exact hst)
  exact W.objInit C.1 rfl C.2.2.2.1 (C.2.2.2.2.1 _ hk) (C.2.2.2.2.1 _ h1) (C.2.2.2.2.1 _ h2) rfl (hl.1.trans C.2.2.1.symm) rfl (g_at C i hd) (by omega) (by omega) (kk H locs ls hP hD hS hl)
end GMAKE
/-! constructors' contracts -/
def g_rn (d mc ms : Nat) : Room := { frames := d, cells := mc, slots := ms, locals := 37 * d }
def gQN (w : gW) (sh' : List gS) (μ' : gM) : Array Value → State → Outcome → State → Prop := fun _ s o t => o = .returned none ∧ (∃ w', gEx w w' ∧ w'.2.2.2.2.1 = sh' ∧ gWf sh' μ' ∧ va_P w'.1 vwCl (gwl w' μ') t.heap ∧ va_D (gA w) (gwl w' μ')) ∧ va_F (gA w) s t
def gMN (l : Launch) (d mc ms : Nat) (y : MethodName) (cc : ByteArray) (nL : Nat) (w : gW) (av : List Value) (μ : gM) (sh' : List gS) (μ' : gM) : Prop := Met l y (.code y cc nL none :: gTb) (g_rn d mc ms) (gPc w av μ) (gQN w sh' μ') mc ms (gA w)
def gRN (X : gX) (w : gW) (sh' : List gS) (μ' : gM) (mc ms : Nat) : State → Prop := MQ X.2.2.2.2.2.2.2.1 (gQN w sh' μ') X.2.2.2.2.2.2.1 X.2.2.2.2.1 mc ms (gA w)
section GCTOR
variable {X : gX} {w : gW} {K : gK} {kc ks nL pc d : Nat} {own : String} {Q : State → Prop} {lv lv' : List (Nat × Value)} {st : List Value} {μ : gM}
theorem v_vretN {w0 : gW} (hx : gEx w0 w) (hwf : gWf w.2.2.2.2.1 μ) (C : gC X w K nL own d) (i : Nat) (hd : K[i]? = some (pc, .return_, 1)) (hr : X.2.2.2.2.2.2.2.2.1.sig.returnType = none) : gV X w kc ks (gRN X w0 w.2.2.2.2.1 μ kc ks) nL pc lv [] μ := fun H locs ls hP hD hS hl => by
  refine W.vret C.1 rfl hr (fun t ht hW => ⟨rfl, ⟨w, hx, rfl, hwf, by rw [ht]; exact hP, ?_⟩, ?_⟩) ?_ (g_at C i hd) C.2.2.2.2.2.2.2.1
  · rw [← hx.A]
    exact hS.2.2
  · rw [← hx.A]
    exact hD
  · rw [← hx.A]
    exact hS.F ht
theorem v_callI (C : gC X w K nL own d) (i : Nat) {idx d2 n nL2 b mc ms : Nat} {y : MethodName} {cc2 : ByteArray} {av : List Value} {sh' : List gS} {μ' : gM} (hd : K[i]? = some (pc, .invokespecial idx, 3))
    (F : gMf y cc2 nL2 none n) (hy : y.name = "<init>") (hi : Cond.instanceMethod y ∈ gTb) (hk : Cond.methodLink own idx y ∈ gTb ∨ ∃ host, Cond.methodLinkNest own idx y host ∈ gNb) (hM : gMN X.2.1 d2 mc ms y cc2 nL2 w (.ref b :: av) μ sh' μ') (hd2 : d2 < d) (hn : av.length = n) (hlv : gLv w.2.2.2.2.1.length lv) (hsl : gLs w.2.2.2.2.1.length st) (hst : (st.map fun v => v.category).sum ≤ 8) (hroom : kc + mc ≤ X.2.2.2.1.cells ∧ ks + ms ≤ X.2.2.2.1.slots)
    {st0 : List Value} (h0 : st0 = av.reverse ++ .ref b :: st) (kk : ∀ w', gEx w w' → w'.2.2.2.2.1 = sh' → gWf w'.2.2.2.2.1 μ' → gV X w' (kc + mc) (ks + ms) Q nL (pc + 3) lv st μ') : gV X w kc ks Q nL pc lv st0 μ := by
  intro H locs ls hP hD hS hl
  subst h0
  obtain ⟨f1, f2, f3, f4, f5, f6, f7⟩ := F
  have hR : (g_rn d2 mc ms).frames + 1 ≤ X.2.2.2.1.frames ∧ 8 + (nL2 + 11) + (g_rn d2 mc ms).locals ≤ X.2.2.2.1.locals := by
    have a1 := C.2.2.2.2.2.2.2.2.1
    have a2 := C.2.2.2.2.2.2.2.2.2.1
    simp only [g_rn]
    omega
  have hp : PreS X.2.2.2.2.1 H (gPc w (.ref b :: av) μ) (.ref (w.2.2.1 b) :: av.map (tv w.2.2.1)) := ⟨g_blind C.2.2.2.2.2.2.2.2.2.2.2, g_pre C hP hD hS⟩
  have hstack : (F0 X.2.2.2.2.2.1 pc ls ((av.reverse ++ .ref b :: st).map (tv w.2.2.1))).stack = (av.map (tv w.2.2.1)).reverse ++ .ref (w.2.2.1 b) :: st.map (tv w.2.2.1) := by
    simp [tv, List.map_reverse]
  have hW8 : 2 * (F0 X.2.2.2.2.2.1 pc ls ((av.reverse ++ .ref b :: st).map (tv w.2.2.1))).monitorRoom + ((st.map (tv w.2.2.1)).map fun v => v.category).sum ≤ 8 := lv_room (by rw [g_lenmap]; exact hst)
  have hrun : va_Run X.1 X.2.1 X.2.2.1 X.2.2.2.1 X.2.2.2.2.1 X.2.2.2.2.2.1 X.2.2.2.2.2.2.1 X.2.2.2.2.2.2.2.1 X.2.2.2.2.2.2.2.2.1 X.2.2.2.2.2.2.2.2.2 H locs kc ks mc ms (F0 X.2.2.2.2.2.1 pc ls ((av.reverse ++ .ref b :: st).map (tv w.2.2.1))) (st.map (tv w.2.2.1)) (gQN w sh' μ' (Value.ref (w.2.2.1 b) :: av.map (tv w.2.2.1)).toArray) (gA w) := by
    rcases hk with hk | ⟨host, hk⟩
    · exact va_runI (b := w.2.2.1 b) (n := n) ⟨C.1, rfl, C.2.2.1, C.2.2.2.1, C.2.2.2.2.1⟩ hM ⟨callB_of n C.2.2.2.2.1 (gGood f1) rfl rfl rfl (C.2.2.2.2.1 _ f2) (C.2.2.2.2.1 _ hk) ⟨f3, f4, f5⟩ hR, hy, C.2.2.2.2.1 _ hi⟩ hp rfl (by rw [List.length_map]; exact hn) hl.1 hstack hW8 (g_at C i hd) hroom
    · exact va_runIN (b := w.2.2.1 b) (n := n) ⟨C.1, rfl, C.2.2.1, C.2.2.2.1, C.2.2.2.2.1⟩ hM ⟨va_cnB n C.2.2.2.2.1 (gGood f1) rfl rfl rfl (C.2.2.2.2.2.1 _ hk) (C.2.2.2.2.1 _ f2) ⟨f3, f4, f5⟩ hR, hy, C.2.2.2.2.1 _ hi⟩ hp rfl (by rw [List.length_map]; exact hn) hl.1 hstack hW8 (g_at C i hd) hroom
  intro T hT X1
  obtain ⟨v, s0, t, T', L, e0, X', hL, e1, e2, ⟨hv, ⟨w', hx, hsh, hwf', hp', hd'⟩, hz, hk2⟩, hgo⟩ := hrun T hT X1
  cases hv
  rw [e0] at hz hk2
  have hS' : va_S (gA w) X.2.2.2.2.1.heap T'.heap (locs ++ L) := ⟨Nat.le_trans hS.1 (by rw [e1]; exact hz), fun q h1 h2 => by rw [e1, hk2 q (Nat.lt_of_lt_of_le h1 hS.1) h2]; exact hS.2.1 q h1 h2, fun q hq => by
    rcases List.mem_append.mp hq with h | h
    · exact hS.2.2 q h
    · exact hL q h⟩
  have hk' := kk w' hx hsh (by rw [hsh]; exact hwf') T'.heap (locs ++ L) ls (by rw [e1]; exact hp') (by rw [hx.A]; exact hd') (by rw [hx.A]; exact hS') (by rw [g_lvE hx.2.2.2.2.1 hlv]; exact hl)
  rw [g_stE hx.2.2.2.2.1 hsl] at hk'
  obtain ⟨t2, a1, b1⟩ := hk' T' rfl X'
  exact ⟨t2, hgo t2 a1, b1⟩
end GCTOR
theorem gMN.of {l : Launch} {d mc ms : Nat} {y : MethodName} {cc : ByteArray} {nL n x0 ci : Nat} {w : gW} {av : List Value} {μ : gM} {sh' : List gS} {μ' : gM} {K : gK} (hJ : gJok w) (F : gMf y cc nL none n) (hK : ∀ q ∈ K, decode cc q.1 = .ok q.2) (hav : (lg_sl (av.map (tv w.2.2.1))).length ≤ nL) (hin : y.name = "<init>") (hx0 : w.2.2.2.2.1[x0]? = some (.inl ci))
    (body : ∀ X : gX, X.2.1 = l → gC X w K nL y.cls d → X.2.2.2.1 = g_rn d mc ms → X.2.2.2.2.2.2.2.2.1.sig.returnType = none → X.2.2.2.2.2.2.2.2.1.name = "<init>" → w.2.2.2.1 ≤ X.2.2.2.2.1.heap.size → gV X w 0 0 (gRN X w sh' μ' mc ms) nL 0 (lv_args 0 av) [] μ) : gMN l d mc ms y cc nL w av μ sh' μ' := by
  refine Met.ofW (cc := cc) (maxL := nL) (ret := none) F.2.2.2.2.2.1 rfl ?_
  intro p e s m args below meth c s1 B hml hv
  obtain ⟨rfl, hP, hD, hKk, hN, hJs⟩ := hv
  have hts := atoms_spec (ws := Cond.code y cc nL none :: gTb) B.pre
  have hb := B.bytes
  have hA : w.2.2.2.1 ≤ s.heap.size := Nat.le_of_lt (Nat.lt_of_le_of_lt (hD.2 x0 _ (g_wl_at hx0)) (hP x0 _ (g_wl_at hx0)).lt)
  have hX := body (p, l, e, (headSpec (Cond.code y cc nL none :: gTb) (g_rn d mc ms)).room, s, m, (av.map (tv w.2.2.1)).toArray, below, meth, c) rfl ⟨B.exec, by rw [hb]; exact hK, hml, findClass_of_methodNamed B.named, fun q hq => hts q (List.mem_cons_of_mem _ hq), hN, hKk, B.notSynchronized, Nat.le_refl _, Nat.le_refl _, hJs, hJ⟩ rfl B.returns ((name_of_methodNamed B.named B.method).1.trans hin) hA
  have hl := lv_entry (av.map (tv w.2.2.1)) (n := nL) hav
  rw [lg_entry_eq]
  have hla : lv_args 0 (av.map (tv w.2.2.1)) = (lv_args 0 av).map (tvp w.2.2.1) := by
    have key : ∀ (av : List Value) (i : Nat), lv_args i (av.map (tv w.2.2.1)) = (lv_args i av).map (tvp w.2.2.1) := by
      intro av
      induction av with
      | nil => intro i; rfl
      | cons v av ih =>
        intro i
        simp only [lv_args, List.map_cons, ih]
        cases v <;> rfl
    exact key av 0
  rw [hla] at hl
  exact hX s.heap [] _ hP hD va_S.rf hl
def kB (sh : List gS) : Bool := decide (sh.length < 1000000)
theorem g_kB {sh : List gS} (h : kB sh = true) : sh.length < 1000000 := by simpa [kB] using h
theorem gLs_nil {n : Nat} : gLs n [] := fun v hv => absurd hv List.not_mem_nil
theorem gLs_ref {n t : Nat} {st : List Value} (h : t < n) (hs : gLs n st) : gLs n (.ref t :: st) := by
  intro v hv u hu
  rcases List.mem_cons.mp hv with rfl | hv
  · cases hu
    exact Or.inl h
  · exact hs v hv u hu
theorem gLs_int {n : Nat} {x : Int32} {st : List Value} (hs : gLs n st) : gLs n (.int x :: st) := by
  intro v hv u hu
  rcases List.mem_cons.mp hv with rfl | hv
  · cases hu
  · exact hs v hv u hu
theorem gLv_nil {n : Nat} : gLv n [] := fun v hv => absurd hv List.not_mem_nil
theorem gLv_ref {n t i : Nat} {lv : List (Nat × Value)} (h : t < n) (hs : gLv n lv) : gLv n ((i, .ref t) :: lv) := by
  intro v hv u hu
  rcases List.mem_cons.mp hv with rfl | hv
  · cases hu
    exact Or.inl h
  · exact hs v hv u hu
theorem gLv_int {n i : Nat} {x : Int32} {lv : List (Nat × Value)} (hs : gLv n lv) : gLv n ((i, .int x) :: lv) := by
  intro v hv u hu
  rcases List.mem_cons.mp hv with rfl | hv
  · cases hu
  · exact hs v hv u hu
theorem g_atn {sh sh1 : List gS} {x : gS} (h : sh1 = sh ++ [x]) : sh1[sh.length]? = some x := by
  rw [h]
  simp
theorem g_ln {sh sh1 : List gS} {x : gS} (h : sh1 = sh ++ [x]) : sh1.length = sh.length + 1 := by
  rw [h]
  simp
theorem gEx.le {w w' : gW} (h : gEx w w') : w.2.2.2.2.1.length ≤ w'.2.2.2.2.1.length := h.2.2.2.2.2.length_le
theorem r_X2_makeScope {sh : List gS} {F x0 : Nat} {x1 x2 r : Int32} {m m' : gM} (h : f_X2_makeScope sh F x0 x1 x2 m = some (r, m')) : m'.2.2 = m.2.2 := by
  unfold f_X2_makeScope at h
  obtain ⟨_, h⟩ := g_okk h
  by_cases c1 : m.1 x0 11 < 0
  · replace h := g_ifT c1 h
    obtain ⟨rfl, rfl⟩ := g_so h
    rfl
  · replace h := g_ifF c1 h
    by_cases c2 : m.1 x0 11 < (64 : Int32)
    · replace h := g_ifT c2 h
      obtain ⟨_, _, h⟩ := g_bd h
      obtain ⟨_, h⟩ := g_okk h
      replace h := g_nm h rfl
      obtain ⟨_, _, h⟩ := g_bd h
      obtain ⟨_, h⟩ := g_okk h
      replace h := g_nm h rfl
      obtain ⟨_, _, h⟩ := g_bd h
      obtain ⟨_, h⟩ := g_okk h
      replace h := g_nm h rfl
      obtain ⟨_, _, h⟩ := g_bd h
      obtain ⟨_, h⟩ := g_okk h
      replace h := g_nm h rfl
      replace h := g_nm h rfl
      obtain ⟨rfl, rfl⟩ := g_so h
      rfl
    · replace h := g_ifF c2 h
      obtain ⟨rfl, rfl⟩ := g_so h
      rfl
theorem r_X2_empty {sh : List gS} {F x0 : Nat} {m m' : gM} (h : f_X2_empty sh F x0 m = some m') : m'.2.2 = m.2.2 := by
  unfold f_X2_empty at h
  obtain ⟨_, h⟩ := g_okk h
  replace h := g_nm h rfl
  replace h := g_nm h rfl
  obtain ⟨_, _, h⟩ := g_bd h
  obtain ⟨_, h⟩ := g_okk h
  replace h := g_nm h rfl
  obtain ⟨_, _, h⟩ := g_bd h
  obtain ⟨_, h⟩ := g_okk h
  replace h := g_nm h rfl
  obtain ⟨⟨r1, m1⟩, q1, h⟩ := g_bd h
  replace h := g_nm (y := m1) (g_nm (y := r1) h rfl) rfl
  cases g_s1' h
  exact (r_X2_makeScope q1).trans rfl
