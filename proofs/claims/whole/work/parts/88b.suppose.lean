/-! SUPPOSE ANOTHER NAME: the object's trial -/
def uT (q : Nat → Nat → Nat) (g : Int64) (X : Nat → Int64) (t : Nat) : Bool := (List.range (q 0 1)).any (fun d => decide (q 4 d = t) && bm g d) || (List.range (q 0 2)).any (fun r => decide (q 7 r = t) && decide (X r &&& g ≠ 0))
section SUP
variable {b c : Nat → Nat} {n l : Nat} {g : Int64} {X : Nat → Int64} {F pg mn tr : Nat} {m : gM}
theorem uT_iff {q : Nat → Nat → Nat} {t : Nat} : uT q g X t = true ↔ (∃ d, d < q 0 1 ∧ q 4 d = t ∧ bm g d = true) ∨ ∃ r, r < q 0 2 ∧ q 7 r = t ∧ X r &&& g ≠ 0 := by
  unfold uT
  simp only [Bool.or_eq_true, List.any_eq_true, List.mem_range, Bool.and_eq_true, decide_eq_true_eq]
theorem uT_cong {q : Nat → Nat → Nat} {Y : Nat → Int64} (e : ∀ r, r < q 0 2 → X r = Y r) : uT q g X = uT q g Y := by
  funext t
  have : uT q g X t = true ↔ uT q g Y t = true := by
    rw [uT_iff, uT_iff]
    constructor
    · rintro (h | ⟨r, a1, a2, a3⟩)
      · exact Or.inl h
      · exact Or.inr ⟨r, a1, a2, by rw [← e r a1]; exact a3⟩
    · rintro (h | ⟨r, a1, a2, a3⟩)
      · exact Or.inl h
      · exact Or.inr ⟨r, a1, a2, by rw [e r a1]; exact a3⟩
  cases x : uT q g X t <;> cases y : uT q g Y t
  · rfl
  · rw [this.mpr y] at x; cases x
  · rw [this.mp x] at y; cases y
  · rfl
theorem uT_d (h : pOk b n) {d : Nat} (hd : d < pQ b n 0 1) : uT (pQ b n) g X (pQ b n 4 d) = bm g d := by
  obtain ⟨-, ⟨-, -, t3, t4, t5⟩, -⟩ := pQ_ok h
  have : uT (pQ b n) g X (pQ b n 4 d) = true ↔ bm g d = true := by
    rw [uT_iff]
    constructor
    · rintro (⟨d', a1, a2, a3⟩ | ⟨r, a1, a2, a3⟩)
      · have e : d' = d := by
          apply Classical.byContradiction
          intro ne
          rcases Nat.lt_or_gt_of_ne ne with x | x
          · have := t3 d' d x hd
            omega
          · have := t3 d d' x a1
            omega
        rw [← e]
        exact a3
      · exact absurd a2.symm (t5 d r hd a1)
    · intro x
      exact Or.inl ⟨d, hd, rfl, x⟩
  cases x : uT (pQ b n) g X (pQ b n 4 d) <;> cases y : bm g d
  · rfl
  · rw [this.mpr y] at x; cases x
  · rw [this.mp x] at y; cases y
  · rfl
theorem uT_r (h : pOk b n) {r : Nat} (hr : r < pQ b n 0 2) : uT (pQ b n) g X (pQ b n 7 r) = true ↔ X r &&& g ≠ 0 := by
  obtain ⟨-, ⟨-, -, t3, t4, t5⟩, -⟩ := pQ_ok h
  rw [uT_iff]
  constructor
  · rintro (⟨d', a1, a2, a3⟩ | ⟨r', a1, a2, a3⟩)
    · exact absurd a2 (t5 d' r a1 hr)
    · have e : r' = r := by
        apply Classical.byContradiction
        intro ne
        rcases Nat.lt_or_gt_of_ne ne with x | x
        · have := t4 r' r x hr
          omega
        · have := t4 r r' x a1
          omega
      rw [← e]
      exact a3
  · intro x
    exact Or.inr ⟨r, hr, rfl, x⟩
theorem uT_k (h : pOk b n) : ∀ t, t < pE b n → uT (pQ b n) g X t = true → kK b n t = 264 := by
  intro t _ u
  rcases uT_iff.mp u with ⟨d, a1, a2, -⟩ | ⟨r, a1, a2, -⟩
  · rw [← a2]; exact (tok_d h a1).2
  · rw [← a2]; exact (tok_r h a1).2
/-- who is named alike in the new text -/
def nkN (b : Nat → Nat) (n : Nat) (g : Int64) (X : Nat → Int64) (c : Nat → Nat) (l : Nat) : Nat → Nat → Bool := nkT (nwB b n (uT (pQ b n) g X) c l) (nwN b n (uT (pQ b n) g X) l)
theorem nkN_iff (h : pOk b n) (hc : Nme c l) {r d : Nat} (hr : r < pQ b n 0 2) (hd : d < pQ b n 0 1) : nkN b n g X c l r d = true ↔ ((if bm g d = true then nmH c 0 l else kH b n (pQ b n 4 d)) = (if X r &&& g ≠ 0 then nmH c 0 l else kH b n (pQ b n 7 r)) ∧ (if bm g d = true then nmL c 0 l else kW b n (pQ b n 4 d)) = (if X r &&& g ≠ 0 then nmL c 0 l else kW b n (pQ b n 7 r))) := by
  have hU := uT_k (g := g) (X := X) h
  have e : pQ (nwB b n (uT (pQ b n) g X) c l) (nwN b n (uT (pQ b n) g X) l) = pQ b n := by
    unfold pQ
    rw [nt_run h hc (by exact hU)]
  unfold nkN nkT
  rw [e, decide_eq_true_eq]
  have a := nt_nm h hc hU (tok_d h hd).1
  have a' := nt_nm h hc hU (tok_r h hr).1
  rw [a.1, a.2, a'.1, a'.2, uT_d h hd]
  by_cases x : X r &&& g ≠ 0
  · rw [if_pos ((uT_r h hr).mpr x), if_pos ((uT_r h hr).mpr x), if_pos x, if_pos x]
  · rw [if_neg (fun z => x ((uT_r h hr).mp z)), if_neg (fun z => x ((uT_r h hr).mp z)), if_neg x, if_neg x]
/-- the row of the trial for reference r -/
theorem sup_row1 (h : pOk b n) (hc : Nme c l) (hg : ∀ d, bm g d = true → d < pQ b n 0 1) {r : Nat} (hr : r < pQ b n 0 2) (hx : X r &&& g ≠ 0 ∨ (kH b n (pQ b n 7 r) = nmH c 0 l ∧ kW b n (pQ b n 7 r) = nmL c 0 l)) : bs (pQ b n 0 1) (fun d => decide (kH b n (pQ b n 4 d) = nmH c 0 l ∧ kW b n (pQ b n 4 d) = nmL c 0 l)) ||| g = bs (pQ b n 0 1) (nkN b n g X c l r) := by
  have l1 := (pQ_ok h).1.1.1.2.2.1
  apply bm_ext
  intro d _
  rw [bm_or, bm_bs (by omega), bm_bs (by omega)]
  by_cases hd : d < pQ b n 0 1
  · have i := nkN_iff (g := g) (X := X) h hc hr hd
    have e : (if X r &&& g ≠ 0 then nmH c 0 l else kH b n (pQ b n 7 r)) = nmH c 0 l ∧ (if X r &&& g ≠ 0 then nmL c 0 l else kW b n (pQ b n 7 r)) = nmL c 0 l := by
      by_cases x : X r &&& g ≠ 0
      · rw [if_pos x, if_pos x]
        exact ⟨rfl, rfl⟩
      · rw [if_neg x, if_neg x]
        exact hx.elim (fun z => absurd z x) id
    rw [e.1, e.2] at i
    rw [decide_eq_true hd, Bool.true_and, Bool.true_and]
    cases u : bm g d
    · rw [u, if_neg (by decide), if_neg (by decide)] at i
      rw [Bool.or_false]
      cases v : nkN b n g X c l r d
      · exact decide_eq_false (fun z => by rw [i.mpr z] at v; cases v)
      · exact decide_eq_true (i.mp v)
    · rw [u, if_pos rfl, if_pos rfl] at i
      rw [Bool.or_true]
      exact (i.mpr ⟨rfl, rfl⟩).symm
  · have : bm g d = false := by
      cases u : bm g d
      · rfl
      · exact absurd (hg d u) hd
    rw [decide_eq_false hd, this]
    rfl
theorem sup_row2 (h : pOk b n) (hc : Nme c l) {r : Nat} (hr : r < pQ b n 0 2) (hx : ¬ (X r &&& g ≠ 0)) (hx2 : ¬ (kH b n (pQ b n 7 r) = nmH c 0 l ∧ kW b n (pQ b n 7 r) = nmL c 0 l)) : bs (pQ b n 0 1) (nkT b n r) &&& (g ^^^ (-1)) = bs (pQ b n 0 1) (nkN b n g X c l r) := by
  have l1 := (pQ_ok h).1.1.1.2.2.1
  apply bm_ext
  intro d hd64
  rw [bm_and, bm_no g hd64, bm_bs (by omega), bm_bs (by omega)]
  by_cases hd : d < pQ b n 0 1
  · have i := nkN_iff (g := g) (X := X) h hc hr hd
    rw [if_neg hx, if_neg hx] at i
    rw [decide_eq_true hd, Bool.true_and, Bool.true_and]
    cases u : bm g d
    · rw [u, if_neg (by decide), if_neg (by decide)] at i
      rw [Bool.not_false, Bool.and_true]
      unfold nkT
      cases v : nkN b n g X c l r d
      · exact decide_eq_false (fun z => by rw [i.mpr z] at v; cases v)
      · exact decide_eq_true (i.mp v)
    · rw [u, if_pos rfl, if_pos rfl] at i
      rw [Bool.not_true, Bool.and_false]
      cases v : nkN b n g X c l r d
      · rfl
      · have z := i.mp v
        exact absurd ⟨z.1.symm, z.2.symm⟩ hx2
  · rw [decide_eq_false hd, Bool.false_and, Bool.false_and, Bool.false_and]
def KS (tr : Nat) (m m' : gM) : Prop := m'.1 = m.1 ∧ (∀ c, c ≠ tr + 1 → m'.2.1 c = m.2.1 c) ∧ m'.2.2 = m.2.2
theorem CPr.ks {q : Nat → Nat → Nat} {S : Nat → Nat} {H L : Nat → Int64} {m' : gM} (C : CPr pg m q S H L) (hpg : pg = 5 ∨ pg = 25) (htr : tr = 45 ∨ tr = 50) (k : KS tr m m') : CPr pg m' q S H L := C.keep (fun c hc => ⟨by rw [k.1], k.2.1 c (by omega), by rw [k.2.2]⟩)
theorem s_isNamed (hpg : pg = 5 ∨ pg = 25) (P : PR m.2.2 pg) {q : Nat → Nat → Nat} {S : Nat → Nat} {H L : Nat → Int64} (C : CPr pg m q S H L) (hS : aS q) {r : Nat} (hr : r < q 0 2) (x y : Int64) : f_X0_isNamed gSH F (pg + 6) (nI r) x y m = some (if H (q 7 r) = x ∧ L (q 7 r) = y then 1 else 0, m) := by
  obtain ⟨g1, g2, g3, b2, b3, b4, b5, b7, b8, b9, b10, -⟩ := gP hpg
  obtain ⟨r0, r1, r2, r3, r4, r5, r6, r7, r8, r9, r10, d0, d1, d2, d3, e0, e1, e2, e3⟩ := id P
  have l2 := hS.1.2.2.2.1
  have cm := C.2.2.2.1 r hr
  unfold f_X0_isNamed
  rw [g3, g_ift, s_hasM g3 (show q 0 2 < 2 ^ 31 by omega) C.1.2.2.1, if_neg (fun z => z.elim (nI_pos (by omega)) (nI_ge hr (by omega))), g_bs, g_nmb, g_nmb, if_neg one0]
  dsimp only
  rw [e2, g_bs, b9, g_inI (by omega) (by decide), g_ift, nI_clamp (by omega), cm.2.2.1, e3, g_bs, b10, g_inI (by omega) (by decide), g_ift, cm.2.2.2.1]
  by_cases x1 : H (q 7 r) = x
  · by_cases x2 : L (q 7 r) = y
    · rw [if_pos x1, if_pos x2, if_pos ⟨x1, x2⟩]
    · rw [if_pos x1, if_neg x2, if_neg (fun z => x2 z.2)]
  · rw [if_neg x1, if_neg (fun z => x1 z.1)]
theorem s_supposeL {q : Nat → Nat → Nat} {S : Nat → Nat} {H L : Nat → Int64} (hS : aS q) (hpg : pg = 5 ∨ pg = 25) (ho : (mn = 45 ∧ tr = 50) ∨ (mn = 50 ∧ tr = 45)) (P : PR m.2.2 pg) (C : CPr pg m q S H L) (M : m.2.2 mn 0 = some (mn + 1) ∧ m.2.2 mn 1 = some (mn + 2)) (T : m.2.2 tr 0 = some (tr + 1)) {x y W : Int64} {R row : Nat → Int64} (h3 : m.2.1 56 3 = x) (h4 : m.2.1 56 4 = y) (hn : ∀ r, r < q 0 2 → m.2.1 (mn + 1) r = row r) (hX : ∀ r, r < q 0 2 → m.2.1 (mn + 2) r = X r) (hW : ∀ r, r < q 0 2 → (X r &&& g ≠ 0 ∨ (H (q 7 r) = x ∧ L (q 7 r) = y)) → W = R r) (hZ : ∀ r, r < q 0 2 → ¬ (X r &&& g ≠ 0) → ¬ (H (q 7 r) = x ∧ L (q 7 r) = y) → row r &&& (g ^^^ (-1)) = R r) :
    ∀ (k N r : Nat) (m' : gM), r + k = q 0 2 → k < N → KS tr m m' → (∀ r', r' < r → m'.2.1 (tr + 1) r' = R r') → ∃ m2, l_X1_supposeName_24 gSH F N tr pg mn g 56 W (nI r) m' = some m2 ∧ KS tr m m2 ∧ ∀ r', r' < q 0 2 → m2.2.1 (tr + 1) r' = R r' := by
  have l2 := hS.1.2.2.2.1
  have hmn : mn = 45 ∨ mn = 50 := by omega
  have htr : tr = 45 ∨ tr = 50 := by omega
  obtain ⟨g1, g2, g3, -⟩ := gP hpg
  obtain ⟨om, c1, c2, -⟩ := gMn hmn
  obtain ⟨ot, t1, -⟩ := gMn htr
  intro k
  induction k with
  | zero =>
    intro N r m' hr hN K hA
    obtain ⟨N, rfl⟩ : ∃ N', N = N' + 1 := ⟨N - 1, by omega⟩
    refine ⟨m', ?_, K, fun r' hr' => hA r' (by omega)⟩
    show b_X1_supposeName_24 gSH F (l_X1_supposeName_24 gSH F N) tr pg mn g 56 _ (nI r) m' = _
    unfold b_X1_supposeName_24
    rw [g1, g_ift, K.2.2, P.2.1, g_bs, g3, g_ift, K.1, C.1.2.2.1, if_pos (nI_le (by omega) (by omega))]
  | succ k ih =>
    intro N r m' hr hN K hA
    obtain ⟨N, rfl⟩ : ∃ N', N = N' + 1 := ⟨N - 1, by omega⟩
    have hr' : r < q 0 2 := by omega
    have C' := C.ks hpg htr K
    have P' : PR m'.2.2 pg := by rw [K.2.2]; exact P
    have isn := s_isNamed (F := F) hpg P' C' hS hr' x y
    have i1 : inB (nI r) 100 = true := g_inI (by omega) (by decide)
    have cl : (nI r).toNatClampNeg = r := nI_clamp (by omega)
    have w : ∀ v, v = R r → ∃ m2, l_X1_supposeName_24 gSH F N tr pg mn g 56 W (nI (r + 1)) (gsL m' (tr + 1) r v) = some m2 ∧ KS tr m m2 ∧ ∀ r', r' < q 0 2 → m2.2.1 (tr + 1) r' = R r' := fun v hv => by
      refine ih N (r + 1) _ (by omega) (by omega) ⟨K.1, fun c hc => by rw [gsL_ne hc]; exact K.2.1 c hc, K.2.2⟩ (fun r' h' => ?_)
      rw [gL_2]
      by_cases z : r' = r
      · rw [if_pos ⟨rfl, z⟩, z, hv]
      · rw [if_neg (fun x => z x.2)]
        exact hA r' (by omega)
    have hXm : m'.2.1 (mn + 2) r = X r := by rw [K.2.1 (mn + 2) (by omega)]; exact hX r hr'
    have hnm : m'.2.1 (mn + 1) r = row r := by rw [K.2.1 (mn + 1) (by omega)]; exact hn r hr'
    have h3m : m'.2.1 56 3 = x := by rw [K.2.1 56 (by omega)]; exact h3
    have h4m : m'.2.1 56 4 = y := by rw [K.2.1 56 (by omega)]; exact h4
    have e : l_X1_supposeName_24 gSH F (N + 1) tr pg mn g 56 W (nI r) m' = (if X r &&& g = 0 then (if H (q 7 r) = x ∧ L (q 7 r) = y then l_X1_supposeName_24 gSH F N tr pg mn g 56 W (nI (r + 1)) (gsL m' (tr + 1) r W) else l_X1_supposeName_24 gSH F N tr pg mn g 56 W (nI (r + 1)) (gsL m' (tr + 1) r (row r &&& (g ^^^ (-1))))) else l_X1_supposeName_24 gSH F N tr pg mn g 56 W (nI (r + 1)) (gsL m' (tr + 1) r W)) := by
      show b_X1_supposeName_24 gSH F (l_X1_supposeName_24 gSH F N) tr pg mn g 56 W (nI r) m' = _
      unfold b_X1_supposeName_24 b_X1_supposeName_72 b_X1_supposeName_77 b_X1_supposeName_108
      have le : ¬ nI (q 0 2) ≤ nI r := nI_ge hr' (by omega)
      simp only [g1, g3, om, ot, ob_56, g_ift, g_bs, g_nmb, K.2.2, P.2.1, M.1, M.2, T, K.1, C.1.2.2.1, le, if_false, c1, c2, t1, i1, cl, hXm, hnm, h3m, h4m, isn, nI_a1, if_true, one0]
      by_cases x1 : X r &&& g = 0
      · rw [if_pos x1, if_pos x1]
        by_cases y1 : H (q 7 r) = x ∧ L (q 7 r) = y
        · rw [if_pos y1, if_pos y1, if_neg one0]
        · rw [if_neg y1, if_neg y1, if_pos (rfl : (0 : Int32) = 0)]
      · rw [if_neg x1, if_neg x1]
    rw [e]
    by_cases x1 : X r &&& g = 0
    · rw [if_pos x1]
      by_cases y1 : H (q 7 r) = x ∧ L (q 7 r) = y
      · rw [if_pos y1]
        exact w _ (hW r hr' (Or.inr y1))
      · rw [if_neg y1]
        exact w _ (hZ r hr' (fun z => z x1) y1)
    · rw [if_neg x1]
      exact w _ (hW r hr' (Or.inl x1))
theorem s_supposeQ {q : Nat → Nat → Nat} {S : Nat → Nat} {H L : Nat → Int64} (hS : aS q) (hF : 5000 ≤ F) (hpg : pg = 5 ∨ pg = 25) (ho : (mn = 45 ∧ tr = 50) ∨ (mn = 50 ∧ tr = 45)) (P : PR m.2.2 pg) (C : CPr pg m q S H L) (M : m.2.2 mn 0 = some (mn + 1) ∧ m.2.2 mn 1 = some (mn + 2)) (T : m.2.2 tr 0 = some (tr + 1)) {x y : Int64} {R row : Nat → Int64} (h3 : m.2.1 56 3 = x) (h4 : m.2.1 56 4 = y) (hn : ∀ r, r < q 0 2 → m.2.1 (mn + 1) r = row r) (hX : ∀ r, r < q 0 2 → m.2.1 (mn + 2) r = X r) (hW : ∀ r, r < q 0 2 → (X r &&& g ≠ 0 ∨ (H (q 7 r) = x ∧ L (q 7 r) = y)) → bs (q 0 1) (fun d => decide (H (q 4 d) = x ∧ L (q 4 d) = y)) ||| g = R r) (hZ : ∀ r, r < q 0 2 → ¬ (X r &&& g ≠ 0) → ¬ (H (q 7 r) = x ∧ L (q 7 r) = y) → row r &&& (g ^^^ (-1)) = R r) :
    ∃ m2, f_X1_supposeName gSH F tr pg mn g 56 m = some m2 ∧ KS tr m m2 ∧ ∀ r', r' < q 0 2 → m2.2.1 (tr + 1) r' = R r' := by
  have l2 := hS.1.2.2.2.1
  obtain ⟨g1, g2, g3, -⟩ := gP hpg
  have t := s_named (F := F) hpg P C hS hF x y
  obtain ⟨m2, a1, a2, a3⟩ := s_supposeL (F := F) hS hpg ho P C M T h3 h4 hn hX hW hZ (q 0 2) F 0 m (by omega) (by omega) ⟨rfl, fun _ _ => rfl, rfl⟩ (fun r' hr' => by omega)
  refine ⟨m2, ?_, a2, a3⟩
  unfold f_X1_supposeName
  rw [g1, g_ift, P.1, g_bs, ob_56, g_ift, g2, g_ift, h3, h4, t, g_bs, g_nmb, g_nmb, g_nmb]
  exact a1
/-- the trial's names -/
theorem s_suppose (h : pOk b n) (hc : Nme c l) (hF : 5000 ≤ F) (hg : ∀ d, bm g d = true → d < pQ b n 0 1) (hpg : pg = 5 ∨ pg = 25) (ho : (mn = 45 ∧ tr = 50) ∨ (mn = 50 ∧ tr = 45)) (P : PR m.2.2 pg) (C : CPr pg m (pQ b n) (kS b n) (kH b n) (kW b n)) (M : m.2.2 mn 0 = some (mn + 1) ∧ m.2.2 mn 1 = some (mn + 2)) (T : m.2.2 tr 0 = some (tr + 1)) (h3 : m.2.1 56 3 = nmH c 0 l) (h4 : m.2.1 56 4 = nmL c 0 l) (hn : ∀ r, r < pQ b n 0 2 → m.2.1 (mn + 1) r = bs (pQ b n 0 1) (nkT b n r)) (hX : ∀ r, r < pQ b n 0 2 → m.2.1 (mn + 2) r = X r) :
    ∃ m2, f_X1_supposeName gSH F tr pg mn g 56 m = some m2 ∧ KS tr m m2 ∧ ∀ r', r' < pQ b n 0 2 → m2.2.1 (tr + 1) r' = bs (pQ b n 0 1) (nkN b n g X c l r') :=
  s_supposeQ (R := fun r => bs (pQ b n 0 1) (nkN b n g X c l r)) (row := fun r => bs (pQ b n 0 1) (nkT b n r)) (pQ_ok h).1.1 hF hpg ho P C M T h3 h4 hn hX (fun _ hr hx => sup_row1 h hc hg hr hx) (fun _ hr x1 x2 => sup_row2 h hc hr x1 x2)
/-- agreesWith -/
theorem s_agreesL (htr : tr = 45 ∨ tr = 50) (hmn : mn = 45 ∨ mn = 50) (T : m.2.2 tr 1 = some (tr + 2)) (M : m.2.2 mn 1 = some (mn + 2)) {nR : Nat} (hR : nR ≤ 100) : ∀ (k N r : Nat), r + k = nR → k < N → (∀ r', r' < r → m.2.1 (tr + 2) r' = m.2.1 (mn + 2) r') → ∃ v, l_X1_agreesWith_2 gSH F N tr mn (nI nR) (nI r) m = some (v, m) ∧ ((v = 1 ∧ ∀ r', r' < nR → m.2.1 (tr + 2) r' = m.2.1 (mn + 2) r') ∨ (v = 0 ∧ ¬ ∀ r', r' < nR → m.2.1 (tr + 2) r' = m.2.1 (mn + 2) r')) := by
  obtain ⟨om, c1, c2, -⟩ := gMn hmn
  obtain ⟨ot, t1, t2, -⟩ := gMn htr
  intro k
  induction k with
  | zero =>
    intro N r hr hN hA
    obtain ⟨N, rfl⟩ : ∃ N', N = N' + 1 := ⟨N - 1, by omega⟩
    refine ⟨1, ?_, Or.inl ⟨rfl, fun r' hr' => hA r' (by omega)⟩⟩
    show b_X1_agreesWith_2 gSH F (l_X1_agreesWith_2 gSH F N) tr mn (nI nR) (nI r) m = _
    unfold b_X1_agreesWith_2
    rw [if_pos (nI_le (by omega) (by omega))]
  | succ k ih =>
    intro N r hr hN hA
    obtain ⟨N, rfl⟩ : ∃ N', N = N' + 1 := ⟨N - 1, by omega⟩
    have i1 : inB (nI r) 100 = true := g_inI (by omega) (by decide)
    have e : l_X1_agreesWith_2 gSH F (N + 1) tr mn (nI nR) (nI r) m = (if m.2.1 (tr + 2) r = m.2.1 (mn + 2) r then l_X1_agreesWith_2 gSH F N tr mn (nI nR) (nI (r + 1)) m else some (0, m)) := by
      show b_X1_agreesWith_2 gSH F (l_X1_agreesWith_2 gSH F N) tr mn (nI nR) (nI r) m = _
      unfold b_X1_agreesWith_2
      rw [if_neg (nI_ge (by omega) (by omega)), if_neg (show ¬ (100 : Int32) ≤ nI r from nI_ge (b := 100) (by omega) (by decide)), ot, g_ift, T, g_bs, t2, i1, g_ift, om, g_ift, M, g_bs, c2, i1, g_ift, nI_clamp (by omega), g_nmb, nI_a1]
    rw [e]
    by_cases x : m.2.1 (tr + 2) r = m.2.1 (mn + 2) r
    · rw [if_pos x]
      exact ih N (r + 1) (by omega) (by omega) (fun r' hr' => by
        by_cases z : r' = r
        · rw [z]; exact x
        · exact hA r' (by omega))
    · rw [if_neg x]
      exact ⟨0, rfl, Or.inr ⟨rfl, fun z => x (z r (by omega))⟩⟩
theorem s_agrees (htr : tr = 45 ∨ tr = 50) (hmn : mn = 45 ∨ mn = 50) (T : m.2.2 tr 1 = some (tr + 2)) (M : m.2.2 mn 1 = some (mn + 2)) {nR : Nat} (hR : nR ≤ 100) (hF : 5000 ≤ F) : ∃ v, f_X1_agreesWith gSH F tr mn (nI nR) m = some (v, m) ∧ ((v = 1 ∧ ∀ r', r' < nR → m.2.1 (tr + 2) r' = m.2.1 (mn + 2) r') ∨ (v = 0 ∧ ¬ ∀ r', r' < nR → m.2.1 (tr + 2) r' = m.2.1 (mn + 2) r')) := s_agreesL (F := F) htr hmn T M hR nR F 0 (by omega) (by omega) (fun r' hr' => by omega)
/-- lengthOf -/
theorem s_lengthL (h : pOk b n) (hpg : pg = 5 ∨ pg = 25) (P : PR m.2.2 pg) (C : CPr pg m (pQ b n) (kS b n) (kH b n) (kW b n)) {d : Nat} (hd : d < pQ b n 0 1) : ∀ (k N i : Nat), i + k = kL b n (pQ b n 4 d) → k < N → l_X0_lengthOf_2 gSH F N (pg + 1) (nI d) (nI i) m = some (nI (kL b n (pQ b n 4 d)), m) := by
  obtain ⟨g1, g2, g3, b2, b3, b4, b5, -⟩ := gP hpg
  obtain ⟨r0, r1, r2, r3, r4, r5, r6, r7, r8, r9, r10, d0, d1, d2, d3, e0, e1, e2, e3⟩ := id P
  have l1 := (pQ_ok h).1.1.1.2.2.1
  have cm := C.2.2.1 d hd
  have tn := tok_name h (tok_d h hd).1 (tok_d h hd).2
  have nb : ∀ i, i < 12 → f_X7_nameByte gSH F (kH b n (pQ b n 4 d)) (kW b n (pQ b n 4 d)) (nI i) m = some (nI (nmB b (kS b n (pQ b n 4 d)) (kL b n (pQ b n 4 d)) i), m) := fun i hi => s_nameByte (fun j hj => (tn.2 j hj).2.1) hi
  have hh := s_hasM (F := F) (m := m) g2 (show pQ b n 0 1 < 2 ^ 31 by omega) C.1.2.1 (nI d)
  rw [if_neg (fun z => z.elim (nI_pos (by omega)) (nI_ge hd (by omega)))] at hh
  have i1 : inB (nI d) 60 = true := g_inI (by omega) (by decide)
  have cl : (nI d).toNatClampNeg = d := nI_clamp (by omega)
  have un : ∀ N i, i < 12 → l_X0_lengthOf_2 gSH F (N + 1) (pg + 1) (nI d) (nI i) m = (if nI (nmB b (kS b n (pQ b n 4 d)) (kL b n (pQ b n 4 d)) i) = 0 then some (nI i, m) else l_X0_lengthOf_2 gSH F N (pg + 1) (nI d) (nI (i + 1)) m) := by
    intro N i hi
    show b_X0_lengthOf_2 gSH F (l_X0_lengthOf_2 gSH F N) (pg + 1) (nI d) (nI i) m = _
    unfold b_X0_lengthOf_2
    rw [g2, g_ift, hh, g_bs, g_nmb, g_nmb, if_neg one0, if_neg (show ¬ (12 : Int32) ≤ nI i from nI_ge (b := 12) hi (by decide))]
    dsimp only
    rw [d2, g_bs, b4, i1, g_ift, d3, g_bs, b5, i1, g_ift, cl, cm.2.2.1, cm.2.2.2.1, nb i hi, g_bs, g_nmb, g_nmb, g_nmb, nI_a1]
  intro k
  induction k with
  | zero =>
    intro N i hi hN
    obtain ⟨N, rfl⟩ : ∃ N', N = N' + 1 := ⟨N - 1, by omega⟩
    by_cases x : i < 12
    · rw [un N i x]
      have : nmB b (kS b n (pQ b n 4 d)) (kL b n (pQ b n 4 d)) i = 0 := by
        unfold nmB
        rw [if_neg (by omega)]
      rw [this, if_pos (show nI 0 = 0 from rfl), show i = kL b n (pQ b n 4 d) by omega]
    · show b_X0_lengthOf_2 gSH F (l_X0_lengthOf_2 gSH F N) (pg + 1) (nI d) (nI i) m = _
      unfold b_X0_lengthOf_2
      rw [g2, g_ift, hh, g_bs, g_nmb, g_nmb, if_neg one0, if_pos (show (12 : Int32) ≤ nI i from nI_le (a := 12) (by omega) (by omega)), show i = kL b n (pQ b n 4 d) by omega]
  | succ k ih =>
    intro N i hi hN
    obtain ⟨N, rfl⟩ : ∃ N', N = N' + 1 := ⟨N - 1, by omega⟩
    rw [un N i (by have := tn.1; omega)]
    have tn2 := tn.2 i (by omega)
    have e : nmB b (kS b n (pQ b n 4 d)) (kL b n (pQ b n 4 d)) i = b (kS b n (pQ b n 4 d) + i) := by
      unfold nmB
      rw [if_pos (by omega)]
    rw [e, if_neg (show ¬ nI (b (kS b n (pQ b n 4 d) + i)) = 0 from fun z => tn2.1 ((nI_eq (b := 0) (by omega) (by omega)).mp z))]
    exact ih N (i + 1) (by omega) (by omega)
theorem s_lengthOf (h : pOk b n) (hF : 5000 ≤ F) (hpg : pg = 5 ∨ pg = 25) (P : PR m.2.2 pg) (C : CPr pg m (pQ b n) (kS b n) (kH b n) (kW b n)) {d : Nat} (hd : d < pQ b n 0 1) : f_X0_lengthOf gSH F (pg + 1) (nI d) m = some (nI (kL b n (pQ b n 4 d)), m) := by
  have tn := (tok_name h (tok_d h hd).1 (tok_d h hd).2).1
  exact s_lengthL h hpg P C hd (kL b n (pQ b n 4 d)) F 0 (by omega) (by omega)
end SUP
