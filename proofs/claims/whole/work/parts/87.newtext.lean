/-! THE NEW TEXT: the tokens of U get another name, c of length l -/
def wSt (b : Nat → Nat) (n : Nat) (U : Nat → Bool) (i : Nat) : Bool := (List.range (pE b n)).any (fun t => U t && decide (kS b n t = i))
def wIn (b : Nat → Nat) (n : Nat) (U : Nat → Bool) (i : Nat) : Bool := (List.range (pE b n)).any (fun t => U t && (decide (kS b n t < i) && decide (i < kS b n t + kL b n t)))
def wL (b : Nat → Nat) (n : Nat) (U : Nat → Bool) (l i : Nat) : Nat := if wSt b n U i = true then l else if wIn b n U i = true then 0 else 1
/-- where the old place i comes to lie -/
def np (b : Nat → Nat) (n : Nat) (U : Nat → Bool) (l : Nat) : Nat → Nat
  | 0 => 0
  | i + 1 => np b n U l i + wL b n U l i
def nwl (b : Nat → Nat) (n : Nat) (U : Nat → Bool) (c : Nat → Nat) (l : Nat) : Nat → List Nat
  | 0 => []
  | i + 1 => nwl b n U c l i ++ (if wSt b n U i = true then (List.range l).map c else if wIn b n U i = true then [] else [b i])
def nwB (b : Nat → Nat) (n : Nat) (U : Nat → Bool) (c : Nat → Nat) (l x : Nat) : Nat := (nwl b n U c l n).getD x 0
def nwN (b : Nat → Nat) (n : Nat) (U : Nat → Bool) (l : Nat) : Nat := np b n U l n
/-- a name -/
def Nme (c : Nat → Nat) (l : Nat) : Prop := 1 ≤ l ∧ l ≤ 12 ∧ cLt (nI (c 0)) = true ∧ (∀ i, i < l → c i < 256 ∧ cIn (nI (c i)) = true) ∧ wordK c 0 l = 264
section NTX
variable {b c : Nat → Nat} {n l : Nat} {U : Nat → Bool}
theorem wSt_iff {i : Nat} : wSt b n U i = true ↔ ∃ t, t < pE b n ∧ U t = true ∧ kS b n t = i := by
  unfold wSt
  simp only [List.any_eq_true, List.mem_range, Bool.and_eq_true, decide_eq_true_eq]
theorem wIn_iff {i : Nat} : wIn b n U i = true ↔ ∃ t, t < pE b n ∧ U t = true ∧ kS b n t < i ∧ i < kS b n t + kL b n t := by
  unfold wIn
  simp only [List.any_eq_true, List.mem_range, Bool.and_eq_true, decide_eq_true_eq]
theorem nwl_len : ∀ i, (nwl b n U c l i).length = np b n U l i := by
  intro i
  induction i with
  | zero => rfl
  | succ i ih =>
    unfold nwl np wL
    rw [List.length_append, ih]
    split
    · simp
    · split <;> simp
theorem np_up (i : Nat) : ∀ k, np b n U l i ≤ np b n U l (i + k) := by
  intro k
  induction k with
  | zero => exact Nat.le_refl _
  | succ k ih =>
    show _ ≤ np b n U l (i + k) + wL b n U l (i + k)
    omega
theorem np_mo {i j : Nat} (h : i ≤ j) : np b n U l i ≤ np b n U l j := by
  have := np_up (b := b) (n := n) (U := U) (l := l) i (j - i)
  rw [show i + (j - i) = j by omega] at this
  exact this
theorem nwl_pre {x i : Nat} (h : x < np b n U l i) : ∀ k, (nwl b n U c l (i + k)).getD x 0 = (nwl b n U c l i).getD x 0 := by
  intro k
  induction k with
  | zero => rfl
  | succ k ih =>
    have e : nwl b n U c l (i + (k + 1)) = nwl b n U c l (i + k) ++ (if wSt b n U (i + k) = true then (List.range l).map c else if wIn b n U (i + k) = true then [] else [b (i + k)]) := rfl
    have le : x < (nwl b n U c l (i + k)).length := by
      rw [nwl_len]
      exact Nat.lt_of_lt_of_le h (np_up i k)
    rw [e, ← ih, List.getD_eq_getElem?_getD, List.getD_eq_getElem?_getD, List.getElem?_append_left le]
/-- the bytes that stand for the old place i -/
theorem nw_at {i o : Nat} (hi : i < n) (ho : o < wL b n U l i) : nwB b n U c l (np b n U l i + o) = if wSt b n U i = true then c o else b i := by
  unfold nwB
  have h : np b n U l i + o < np b n U l (i + 1) := by
    show _ < np b n U l i + wL b n U l i
    omega
  have := nwl_pre (c := c) h (n - (i + 1))
  rw [show i + 1 + (n - (i + 1)) = n by omega] at this
  rw [this]
  have e : nwl b n U c l (i + 1) = nwl b n U c l i ++ (if wSt b n U i = true then (List.range l).map c else if wIn b n U i = true then [] else [b i]) := rfl
  rw [e, List.getD_eq_getElem?_getD, List.getElem?_append_right (by rw [nwl_len]; omega), nwl_len, show np b n U l i + o - np b n U l i = o by omega]
  unfold wL at ho
  by_cases s : wSt b n U i = true
  · rw [if_pos s] at ho
    rw [if_pos s, if_pos s]
    simp [ho]
  · rw [if_neg s] at ho
    rw [if_neg s, if_neg s]
    by_cases s2 : wIn b n U i = true
    · rw [if_pos s2] at ho
      omega
    · rw [if_neg s2] at ho
      rw [if_neg s2, show o = 0 by omega]
      rfl
theorem nw_ex {x : Nat} : ∀ i, x < np b n U l i → ∃ j o, j < i ∧ o < wL b n U l j ∧ x = np b n U l j + o := by
  intro i
  induction i with
  | zero => intro h; exact absurd h (Nat.not_lt_zero _)
  | succ i ih =>
    intro h
    by_cases k : x < np b n U l i
    · obtain ⟨j, o, h1, h2, h3⟩ := ih k
      exact ⟨j, o, by omega, h2, h3⟩
    · have h' : x < np b n U l i + wL b n U l i := h
      exact ⟨i, x - np b n U l i, by omega, by omega, by omega⟩
theorem nw_lt (hb : ∀ i, i < n → b i < 256) (hc : Nme c l) {x : Nat} (hx : x < nwN b n U l) : nwB b n U c l x < 256 := by
  obtain ⟨j, o, h1, h2, rfl⟩ := nw_ex n hx
  rw [nw_at h1 h2]
  unfold wL at h2
  split
  · rename_i s
    rw [if_pos s] at h2
    exact (hc.2.2.2.1 o h2).1
  · exact hb j h1
/-- places of tokens -/
theorem tok_pos (h : pOk b n) {t t' : Nat} (h1 : t' < t) (h2 : t ≤ pE b n) : kS b n t' + kL b n t' ≤ tP b n t := by
  obtain ⟨t, rfl⟩ : ∃ u, t = u + 1 := ⟨t - 1, by omega⟩
  show _ ≤ kS b n t + kL b n t
  by_cases e : t' = t
  · rw [e]
    exact Nat.le_refl _
  · have := tok_mono h (show t' < t by omega) (by omega)
    omega
theorem tok_ge (h : pOk b n) {t t' : Nat} (h1 : t ≤ t') (h2 : t' ≤ pE b n) : kS b n t ≤ kS b n t' := by
  by_cases e : t = t'
  · rw [e]
    exact Nat.le_refl _
  · have := tok_mono h (show t < t' by omega) h2
    omega
theorem tok_un (h : pOk b n) {t t' x : Nat} (h1 : t < pE b n) (h2 : t' < pE b n) (a1 : kS b n t ≤ x) (a2 : x < kS b n t + kL b n t) (b1 : kS b n t' ≤ x) (b2 : x < kS b n t' + kL b n t') : t' = t := by
  apply Classical.byContradiction
  intro ne
  rcases Nat.lt_or_gt_of_ne ne with k | k
  · have := tok_mono h k (by omega)
    omega
  · have := tok_mono h k (by omega)
    omega
theorem w_gap (h : pOk b n) {t x : Nat} (ht : t ≤ pE b n) (h1 : tP b n t ≤ x) (h2 : x < kS b n t) : wSt b n U x = false ∧ wIn b n U x = false := by
  have key : ∀ t', t' < pE b n → ¬ (kS b n t' ≤ x ∧ x < kS b n t' + kL b n t') := fun t' ht' ⟨a1, a2⟩ => by
    by_cases k : t' < t
    · have := tok_pos h k ht
      omega
    · have := tok_ge h (show t ≤ t' by omega) (by omega)
      omega
  constructor
  · cases e : wSt b n U x
    · rfl
    · obtain ⟨t', a, -, k⟩ := wSt_iff.mp e
      exact absurd ⟨by omega, by have := (tok_in h a).2.1; omega⟩ (key t' a)
  · cases e : wIn b n U x
    · rfl
    · obtain ⟨t', a, -, k1, k2⟩ := wIn_iff.mp e
      exact absurd ⟨by omega, k2⟩ (key t' a)
theorem w_tok (h : pOk b n) {t x : Nat} (ht : t < pE b n) (h1 : kS b n t ≤ x) (h2 : x < kS b n t + kL b n t) : (wSt b n U x = true ↔ U t = true ∧ x = kS b n t) ∧ (wIn b n U x = true ↔ U t = true ∧ kS b n t < x) := by
  constructor
  · constructor
    · intro e
      obtain ⟨t', a, u, k⟩ := wSt_iff.mp e
      have := tok_un h ht a h1 h2 (by omega) (by have := (tok_in h a).2.1; omega)
      subst this
      exact ⟨u, k.symm⟩
    · intro ⟨u, e⟩
      exact wSt_iff.mpr ⟨t, ht, u, e.symm⟩
  · constructor
    · intro e
      obtain ⟨t', a, u, k1, k2⟩ := wIn_iff.mp e
      have := tok_un h ht a h1 h2 (by omega) k2
      subst this
      exact ⟨u, k1⟩
    · intro ⟨u, e⟩
      exact wIn_iff.mpr ⟨t, ht, u, e, h2⟩
theorem wL_gap (h : pOk b n) {t x : Nat} (ht : t ≤ pE b n) (h1 : tP b n t ≤ x) (h2 : x < kS b n t) : wL b n U l x = 1 := by
  unfold wL
  have := w_gap (U := U) h ht h1 h2
  rw [this.1, this.2]
  rfl
theorem wL_N (h : pOk b n) {t x : Nat} (ht : t < pE b n) (hu : U t = false) (h1 : kS b n t ≤ x) (h2 : x < kS b n t + kL b n t) : wSt b n U x = false ∧ wIn b n U x = false ∧ wL b n U l x = 1 := by
  have w := w_tok (U := U) h ht h1 h2
  have e1 : wSt b n U x = false := by
    cases e : wSt b n U x
    · rfl
    · have := (w.1.mp e).1
      rw [hu] at this
      cases this
  have e2 : wIn b n U x = false := by
    cases e : wIn b n U x
    · rfl
    · have := (w.2.mp e).1
      rw [hu] at this
      cases this
  refine ⟨e1, e2, ?_⟩
  unfold wL
  rw [e1, e2]
  rfl
theorem wL_U0 {t : Nat} (ht : t < pE b n) (hu : U t = true) : wSt b n U (kS b n t) = true ∧ wL b n U l (kS b n t) = l := by
  have e : wSt b n U (kS b n t) = true := wSt_iff.mpr ⟨t, ht, hu, rfl⟩
  refine ⟨e, ?_⟩
  unfold wL
  rw [if_pos e]
theorem wL_U1 (h : pOk b n) {t x : Nat} (ht : t < pE b n) (hu : U t = true) (h1 : kS b n t < x) (h2 : x < kS b n t + kL b n t) : wSt b n U x = false ∧ wIn b n U x = true ∧ wL b n U l x = 0 := by
  have w := w_tok (U := U) h ht (by omega) h2
  have e1 : wSt b n U x = false := by
    cases e : wSt b n U x
    · rfl
    · have := (w.1.mp e).2
      omega
  have e2 : wIn b n U x = true := w.2.mpr ⟨hu, h1⟩
  refine ⟨e1, e2, ?_⟩
  unfold wL
  rw [if_neg (by rw [e1]; decide), if_pos e2]
theorem np_gap (h : pOk b n) {t : Nat} (ht : t ≤ pE b n) : ∀ o, tP b n t + o ≤ kS b n t → np b n U l (tP b n t + o) = np b n U l (tP b n t) + o := by
  intro o
  induction o with
  | zero => intro _; rfl
  | succ o ih =>
    intro ho
    show np b n U l (tP b n t + o) + wL b n U l (tP b n t + o) = _
    rw [ih (by omega), wL_gap h ht (by omega) (by omega)]
    omega
theorem np_N (h : pOk b n) {t : Nat} (ht : t < pE b n) (hu : U t = false) : ∀ o, o ≤ kL b n t → np b n U l (kS b n t + o) = np b n U l (kS b n t) + o := by
  intro o
  induction o with
  | zero => intro _; rfl
  | succ o ih =>
    intro ho
    show np b n U l (kS b n t + o) + wL b n U l (kS b n t + o) = _
    rw [ih (by omega), (wL_N h ht hu (by omega) (by omega)).2.2]
    omega
theorem np_U (h : pOk b n) {t : Nat} (ht : t < pE b n) (hu : U t = true) : ∀ o, o + 1 ≤ kL b n t → np b n U l (kS b n t + (o + 1)) = np b n U l (kS b n t) + l := by
  intro o
  induction o with
  | zero =>
    intro _
    show np b n U l (kS b n t) + wL b n U l (kS b n t) = _
    rw [(wL_U0 ht hu).2]
  | succ o ih =>
    intro ho
    show np b n U l (kS b n t + (o + 1)) + wL b n U l (kS b n t + (o + 1)) = _
    rw [ih (by omega), (wL_U1 h ht hu (by omega) (by omega)).2.2]
    rfl
theorem np_next (h : pOk b n) {t : Nat} (ht : t < pE b n) : np b n U l (tP b n (t + 1)) = np b n U l (kS b n t) + (if U t = true then l else kL b n t) := by
  show np b n U l (kS b n t + kL b n t) = _
  have k := (tok_in h ht).2.1
  cases u : U t
  · rw [np_N h ht u _ (Nat.le_refl _), if_neg (by decide)]
  · have := np_U (l := l) h ht u (kL b n t - 1) (by omega)
    rw [show kL b n t - 1 + 1 = kL b n t by omega] at this
    rw [this, if_pos rfl]
theorem kS_E (h : pOk b n) : kS b n (pE b n) = n := by
  have a := (tK_266 (p := tP b n (pE b n)) h.1).1.mp (pQ_ok h).2.2.1
  have := (tS_le (b := b) (tP_le h (pE b n) (Nat.le_refl _))).2
  show tS b n (tP b n (pE b n)) = n
  omega
/-- bytes of the new text -/
theorem nb_gap (h : pOk b n) {t o : Nat} (ht : t ≤ pE b n) (ho : tP b n t + o < kS b n t) : nwB b n U c l (np b n U l (tP b n t) + o) = b (tP b n t + o) := by
  have hn := (tS_le (b := b) (tP_le h t ht)).2
  have hs : kS b n t ≤ n := hn
  have e := nw_at (c := c) (U := U) (l := l) (b := b) (n := n) (i := tP b n t + o) (o := 0) (by omega) (by rw [wL_gap h ht (by omega) ho]; decide)
  rw [np_gap h ht o (by omega), (w_gap h ht (by omega) ho).1, if_neg (by decide)] at e
  exact e
theorem nb_N (h : pOk b n) {t o : Nat} (ht : t < pE b n) (hu : U t = false) (ho : o < kL b n t) : nwB b n U c l (np b n U l (kS b n t) + o) = b (kS b n t + o) := by
  have hn := (tok_in h ht).2.2
  have e := nw_at (c := c) (U := U) (l := l) (b := b) (n := n) (i := kS b n t + o) (o := 0) (by omega) (by rw [(wL_N h ht hu (by omega) (by omega)).2.2]; decide)
  rw [np_N h ht hu o (by omega), (wL_N (l := l) h ht hu (by omega) (by omega)).1, if_neg (by decide)] at e
  exact e
theorem nb_U (h : pOk b n) {t o : Nat} (ht : t < pE b n) (hu : U t = true) (ho : o < l) : nwB b n U c l (np b n U l (kS b n t) + o) = c o := by
  have hn := (tok_in h ht).1
  have e := nw_at (c := c) (U := U) (l := l) (b := b) (n := n) (i := kS b n t) (o := o) hn (by rw [(wL_U0 ht hu).2]; exact ho)
  rw [(wL_U0 (l := l) ht hu).1, if_pos rfl] at e
  exact e
/-- runs -/
theorem runP_is {p : Int32 → Bool} {b : Nat → Nat} : ∀ (k i e : Nat), i ≤ e → e ≤ i + k → (∀ j, i ≤ j → j < e → p (nI (b j)) = true) → (e < i + k → p (nI (b e)) = false) → runP p b k i = e := by
  intro k
  induction k with
  | zero =>
    intro i e h1 h2 _ _
    show i = e
    omega
  | succ k ih =>
    intro i e h1 h2 h3 h4
    unfold runP
    by_cases x : i = e
    · subst x
      rw [if_neg (by rw [h4 (by omega)]; decide)]
    · rw [if_pos (h3 i (Nat.le_refl _) (by omega))]
      exact ih (i + 1) e (by omega) (by omega) (fun j a1 a2 => h3 j (by omega) a2) (fun a => h4 (by omega))
theorem wordK_cong {b b' : Nat → Nat} {s s' len : Nat} (e : ∀ i, i < len → b (s + i) = b' (s' + i)) : wordK b s len = wordK b' s' len := by
  have w : ∀ w, isWb b s len w = isWb b' s' len w := fun w => by
    have a : isWb b s len w = true ↔ isWb b' s' len w = true := by
      rw [isWb_iff, isWb_iff]
      constructor
      · rintro ⟨a1, a2⟩
        exact ⟨a1, fun i hi => by rw [← e i hi]; exact a2 i hi⟩
      · rintro ⟨a1, a2⟩
        exact ⟨a1, fun i hi => by rw [e i hi]; exact a2 i hi⟩
    cases x : isWb b s len w <;> cases y : isWb b' s' len w
    · rfl
    · rw [a.mpr y] at x; cases x
    · rw [a.mp x] at y; cases y
    · rfl
  have k : ∀ k v, wkF b s len k v = wkF b' s' len k v := by
    intro k
    induction k with
    | zero => intro v; rfl
    | succ k ih =>
      intro v
      unfold wkF
      rw [w v, ih (v + 1)]
  exact k 8 0
theorem nmB_cong {b b' : Nat → Nat} {s s' len : Nat} (e : ∀ i, i < len → b (s + i) = b' (s' + i)) (i : Nat) : nmB b s len i = nmB b' s' len i := by
  unfold nmB
  split
  · rename_i k
    exact e i k
  · rfl
theorem nmH_cong {b b' : Nat → Nat} {s s' len : Nat} (e : ∀ i, i < len → b (s + i) = b' (s' + i)) : nmH b s len = nmH b' s' len ∧ nmL b s len = nmL b' s' len := by
  unfold nmH nmL
  rw [pkv_cong (fun i _ => nmB_cong e i), pkv_cong (f := fun i => nmB b s len (i + 6)) (g := fun i => nmB b' s' len (i + 6)) (fun i _ => nmB_cong e (i + 6))]
  exact ⟨rfl, rfl⟩
theorem lt_bl : ∀ c, c < 256 → cLt (nI c) = true → cBl (nI c) = false ∧ cDg (nI c) = false := by decide +kernel
theorem in_cases : ∀ c, c < 256 → cLt (nI c) = true → cIn (nI c) = true := by decide +kernel
/-- the byte where the next token begins or the blanks before it -/
theorem nb_end (h : pOk b n) (hc : Nme c l) {t : Nat} (ht : t < pE b n) (he : tP b n (t + 1) < n) : (nwB b n U c l (np b n U l (tP b n (t + 1))) = b (tP b n (t + 1)) ∨ (nwB b n U c l (np b n U l (tP b n (t + 1))) = c 0 ∧ t + 1 < pE b n ∧ U (t + 1) = true ∧ kS b n (t + 1) = tP b n (t + 1))) ∧ np b n U l (tP b n (t + 1)) < nwN b n U l := by
  have a := (tS_le (b := b) (tP_le h (t + 1) (by omega))).1
  have a' : tP b n (t + 1) ≤ kS b n (t + 1) := a
  have l1 := hc.1
  by_cases g : tP b n (t + 1) < kS b n (t + 1)
  · have x := nb_gap (c := c) (U := U) (l := l) h (t := t + 1) (o := 0) (by omega) g
    refine ⟨Or.inl x, ?_⟩
    have m : np b n U l (tP b n (t + 1) + 1) ≤ np b n U l n := np_mo (by omega)
    rw [np_gap h (by omega) 1 (by omega)] at m
    unfold nwN
    omega
  · have e : kS b n (t + 1) = tP b n (t + 1) := by omega
    have lt : t + 1 < pE b n := by
      apply Classical.byContradiction
      intro ne
      have := kS_E h
      rw [show pE b n = t + 1 by omega] at this
      omega
    have k := tok_in h lt
    cases u : U (t + 1)
    · have x := nb_N (c := c) (U := U) (l := l) h (t := t + 1) (o := 0) lt u (by omega)
      rw [e] at x
      refine ⟨Or.inl x, ?_⟩
      have m : np b n U l (kS b n (t + 1) + 1) ≤ np b n U l n := np_mo (by omega)
      rw [np_N h lt u 1 (by omega), e] at m
      unfold nwN
      omega
    · have x := nb_U (c := c) (U := U) (l := l) h (t := t + 1) (o := 0) lt u (by omega)
      rw [e] at x
      refine ⟨Or.inr ⟨x, lt, rfl, e⟩, ?_⟩
      have m : np b n U l (kS b n (t + 1) + (0 + 1)) ≤ np b n U l n := np_mo (by omega)
      rw [np_U h lt u 0 (by omega), e] at m
      unfold nwN
      omega
/-- the tokens of the new text -/
theorem nt_lex (h : pOk b n) (hc : Nme c l) (hU : ∀ t, t < pE b n → U t = true → kK b n t = 264) {t : Nat} (ht : t ≤ pE b n) : tS (nwB b n U c l) (nwN b n U l) (np b n U l (tP b n t)) = np b n U l (kS b n t) ∧ tK (nwB b n U c l) (nwN b n U l) (np b n U l (tP b n t)) = kK b n t ∧ (t < pE b n → tL (nwB b n U c l) (nwN b n U l) (np b n U l (tP b n t)) = if U t = true then l else kL b n t) := by
  have hle := tS_le (b := b) (tP_le h t ht)
  have h1 : tP b n t ≤ kS b n t := hle.1
  have h2 : kS b n t ≤ n := hle.2
  have g := np_gap (U := U) (l := l) h ht (kS b n t - tP b n t) (by omega)
  rw [show tP b n t + (kS b n t - tP b n t) = kS b n t by omega] at g
  have m2 : np b n U l (kS b n t) ≤ nwN b n U l := np_mo h2
  have blank : ∀ o, tP b n t + o < kS b n t → cBl (nI (b (tP b n t + o))) = true := fun o ho => runP_all cBl b (n - tP b n t) (tP b n t) (tP b n t + o) (by omega) ho
  have l1 := hc.1
  have l2 := hc.2.1
  have c0 := hc.2.2.1
  have cb := (hc.2.2.2.1 0 (by omega)).1
  have S : tS (nwB b n U c l) (nwN b n U l) (np b n U l (tP b n t)) = np b n U l (kS b n t) := by
    refine runP_is _ _ _ (by omega) (by omega) (fun j a1 a2 => ?_) (fun a => ?_)
    · have := nb_gap (c := c) (U := U) (l := l) h ht (o := j - np b n U l (tP b n t)) (by omega)
      rw [show np b n U l (tP b n t) + (j - np b n U l (tP b n t)) = j by omega] at this
      rw [this]
      exact blank _ (by omega)
    · have lt : t < pE b n := by
        apply Classical.byContradiction
        intro ne
        have := kS_E h
        rw [show pE b n = t by omega] at this
        have e : nwN b n U l = np b n U l n := rfl
        rw [this] at a g
        omega
      cases u : U t
      · have x := nb_N (c := c) (U := U) (l := l) h (t := t) (o := 0) lt u (tok_in h lt).2.1
        have x' : nwB b n U c l (np b n U l (kS b n t)) = b (kS b n t) := x
        rw [x']
        exact runP_end cBl b (n - tP b n t) (tP b n t) (by have := (tok_in h lt).1; have e : runP cBl b (n - tP b n t) (tP b n t) = kS b n t := rfl; omega)
      · have x := nb_U (c := c) (U := U) (l := l) h (t := t) (o := 0) lt u (by omega)
        have x' : nwB b n U c l (np b n U l (kS b n t)) = c 0 := x
        rw [x']
        exact (lt_bl _ cb c0).1
  refine ⟨S, ?_⟩
  by_cases lt : t < pE b n
  · have k := tok_in h lt
    have eP : tP b n (t + 1) = kS b n t + kL b n t := rfl
    have nx := np_next (U := U) (l := l) h lt
    have mn : np b n U l (kS b n t) < nwN b n U l := by
      have m : np b n U l (tP b n (t + 1)) ≤ np b n U l n := np_mo (by omega)
      unfold nwN
      split at nx <;> omega
    have mx : np b n U l (tP b n (t + 1)) ≤ nwN b n U l := np_mo (by omega)
    have top : np b n U l (tP b n (t + 1)) < nwN b n U l → tP b n (t + 1) < n := fun a => by
      apply Classical.byContradiction
      intro ne
      have : tP b n (t + 1) = n := by omega
      rw [this] at a
      exact Nat.lt_irrefl _ a
    cases u : U t
    · rw [u, if_neg (by decide)] at nx
      have by' : ∀ o, o < kL b n t → nwB b n U c l (np b n U l (kS b n t) + o) = b (kS b n t + o) := fun o ho => nb_N h lt u ho
      have b0 : nwB b n U c l (np b n U l (kS b n t)) = b (kS b n t) := by' 0 k.2.1
      have L : tL (nwB b n U c l) (nwN b n U l) (np b n U l (tP b n t)) = kL b n t := by
        unfold tL
        rw [S, if_pos mn, b0]
        have kl : kL b n t = tL b n (tP b n t) := rfl
        have ks : tS b n (tP b n t) = kS b n t := rfl
        unfold tL at kl
        rw [ks, if_pos k.1] at kl
        split
        · rename_i q
          rw [if_pos q] at kl
          have re : runP cIn b (n - kS b n t) (kS b n t) = tP b n (t + 1) := by
            have := (runP_ge cIn b (n - kS b n t) (kS b n t)).1
            omega
          have : runP cIn (nwB b n U c l) (nwN b n U l - np b n U l (kS b n t)) (np b n U l (kS b n t)) = np b n U l (tP b n (t + 1)) := by
            refine runP_is _ _ _ (by omega) (by omega) (fun j a1 a2 => ?_) (fun a => ?_)
            · have y := by' (j - np b n U l (kS b n t)) (by omega)
              rw [show np b n U l (kS b n t) + (j - np b n U l (kS b n t)) = j by omega] at y
              rw [y]
              exact runP_all cIn b (n - kS b n t) (kS b n t) _ (by omega) (by omega)
            · have tn := top (by omega)
              have y := runP_end cIn b (n - kS b n t) (kS b n t) (by omega)
              rw [re] at y
              rcases (nb_end (U := U) h hc lt tn).1 with z | ⟨-, z1, z2, z3⟩
              · rw [z]; exact y
              · have w := hU _ z1 z2
                have w' := (tok_name h z1 w).2 0 (tok_in h z1).2.1
                rw [Nat.add_zero, z3] at w'
                rw [y] at w'
                exact absurd w'.2.2 (by decide)
          rw [this]
          omega
        · rename_i q
          rw [if_neg q] at kl
          split
          · rename_i q2
            rw [if_pos q2] at kl
            have re : runP cDg b (n - kS b n t) (kS b n t) = tP b n (t + 1) := by
              have := (runP_ge cDg b (n - kS b n t) (kS b n t)).1
              omega
            have : runP cDg (nwB b n U c l) (nwN b n U l - np b n U l (kS b n t)) (np b n U l (kS b n t)) = np b n U l (tP b n (t + 1)) := by
              refine runP_is _ _ _ (by omega) (by omega) (fun j a1 a2 => ?_) (fun a => ?_)
              · have y := by' (j - np b n U l (kS b n t)) (by omega)
                rw [show np b n U l (kS b n t) + (j - np b n U l (kS b n t)) = j by omega] at y
                rw [y]
                exact runP_all cDg b (n - kS b n t) (kS b n t) _ (by omega) (by omega)
              · have tn := top (by omega)
                have y := runP_end cDg b (n - kS b n t) (kS b n t) (by omega)
                rw [re] at y
                rcases (nb_end (U := U) h hc lt tn).1 with z | ⟨z, -⟩
                · rw [z]; exact y
                · rw [z]; exact (lt_bl _ cb c0).2
            rw [this]
            omega
          · rename_i q2
            rw [if_neg q2] at kl
            exact kl.symm
      refine ⟨?_, fun _ => by rw [L, if_neg (by decide)]⟩
      unfold tK
      rw [L, S, if_pos mn, b0]
      show _ = tK b n (tP b n t)
      unfold tK
      have ks : tS b n (tP b n t) = kS b n t := rfl
      have kl : tL b n (tP b n t) = kL b n t := rfl
      rw [ks, kl, if_pos k.1, wordK_cong (fun i hi => by' i hi)]
    · rw [u, if_pos rfl] at nx
      have by' : ∀ o, o < l → nwB b n U c l (np b n U l (kS b n t) + o) = c o := fun o ho => nb_U h lt u ho
      have b0 : nwB b n U c l (np b n U l (kS b n t)) = c 0 := by' 0 (by omega)
      have nmk := hU t lt u
      have ltr : cLt (nI (b (kS b n t))) = true := by
        have e : tK b n (tP b n t) = 264 := nmk
        unfold tK at e
        have ks : tS b n (tP b n t) = kS b n t := rfl
        rw [ks, if_pos k.1] at e
        split at e
        · assumption
        · split at e
          · split at e <;> omega
          · split at e
            · have := h.1 _ k.1
              omega
            · omega
      have L : tL (nwB b n U c l) (nwN b n U l) (np b n U l (tP b n t)) = l := by
        unfold tL
        rw [S, if_pos mn, b0, if_pos c0]
        have kl : kL b n t = tL b n (tP b n t) := rfl
        have ks : tS b n (tP b n t) = kS b n t := rfl
        unfold tL at kl
        rw [ks, if_pos k.1, if_pos ltr] at kl
        have re : runP cIn b (n - kS b n t) (kS b n t) = tP b n (t + 1) := by
          have := (runP_ge cIn b (n - kS b n t) (kS b n t)).1
          omega
        have : runP cIn (nwB b n U c l) (nwN b n U l - np b n U l (kS b n t)) (np b n U l (kS b n t)) = np b n U l (tP b n (t + 1)) := by
          refine runP_is _ _ _ (by omega) (by omega) (fun j a1 a2 => ?_) (fun a => ?_)
          · have y := by' (j - np b n U l (kS b n t)) (by omega)
            rw [show np b n U l (kS b n t) + (j - np b n U l (kS b n t)) = j by omega] at y
            rw [y]
            exact (hc.2.2.2.1 _ (by omega)).2
          · have tn := top (by omega)
            have y := runP_end cIn b (n - kS b n t) (kS b n t) (by omega)
            rw [re] at y
            rcases (nb_end (U := U) h hc lt tn).1 with z | ⟨-, z1, z2, z3⟩
            · rw [z]; exact y
            · have w := hU _ z1 z2
              have w' := (tok_name h z1 w).2 0 (tok_in h z1).2.1
              rw [Nat.add_zero, z3] at w'
              rw [y] at w'
              exact absurd w'.2.2 (by decide)
        rw [this]
        omega
      refine ⟨?_, fun _ => by rw [L, if_pos rfl]⟩
      unfold tK
      rw [L, S, if_pos mn, b0, if_pos c0, if_neg (by omega), nmk]
      have e := wordK_cong (b := nwB b n U c l) (b' := c) (s := np b n U l (kS b n t)) (s' := 0) (len := l) (fun i hi => by rw [by' i hi, Nat.zero_add])
      rw [e]
      exact hc.2.2.2.2
  · refine ⟨?_, fun x => absurd x lt⟩
    have e : t = pE b n := by omega
    subst e
    rw [(pQ_ok h).2.2.1]
    unfold tK
    rw [S, kS_E h]
    exact if_neg (Nat.lt_irrefl _)
theorem nt_tP (h : pOk b n) (hc : Nme c l) (hU : ∀ t, t < pE b n → U t = true → kK b n t = 264) : ∀ t, t ≤ pE b n → tP (nwB b n U c l) (nwN b n U l) t = np b n U l (tP b n t) := by
  intro t
  induction t with
  | zero => intro _; rfl
  | succ t ih =>
    intro ht
    have x := nt_lex h hc hU (t := t) (by omega)
    show tS _ _ (tP _ _ t) + tL _ _ (tP _ _ t) = _
    rw [ih (by omega), x.1, x.2.2 (by omega), np_next h (by omega)]
theorem nt_tok (h : pOk b n) (hc : Nme c l) (hU : ∀ t, t < pE b n → U t = true → kK b n t = 264) {t : Nat} (ht : t ≤ pE b n) : kS (nwB b n U c l) (nwN b n U l) t = np b n U l (kS b n t) ∧ kK (nwB b n U c l) (nwN b n U l) t = kK b n t ∧ (t < pE b n → kL (nwB b n U c l) (nwN b n U l) t = if U t = true then l else kL b n t) := by
  have x := nt_lex h hc hU ht
  unfold kS kK kL
  rw [nt_tP h hc hU t ht]
  exact x
theorem nt_nm (h : pOk b n) (hc : Nme c l) (hU : ∀ t, t < pE b n → U t = true → kK b n t = 264) {t : Nat} (ht : t < pE b n) : kH (nwB b n U c l) (nwN b n U l) t = (if U t = true then nmH c 0 l else kH b n t) ∧ kW (nwB b n U c l) (nwN b n U l) t = (if U t = true then nmL c 0 l else kW b n t) := by
  have x := nt_tok h hc hU (t := t) (by omega)
  unfold kH kW
  rw [x.1, x.2.2 ht]
  cases u : U t
  · rw [if_neg (by decide), if_neg (by decide), if_neg (by decide)]
    exact nmH_cong (fun i hi => nb_N h ht u hi)
  · rw [if_pos rfl, if_pos rfl, if_pos rfl]
    exact nmH_cong (fun i hi => by rw [nb_U h ht u hi, Nat.zero_add])
theorem aRun_cong {K K' : Nat → Nat} : ∀ (k i : Nat) (q : Nat → Nat → Nat), (∀ t, t ≤ (aRun K k i q).2.1 → K' t = K t) → aRun K' k i q = aRun K k i q := by
  intro k
  induction k with
  | zero => intro i q _; rfl
  | succ k ih =>
    intro i q h
    have ge : ∀ k i q, i ≤ (aRun K k i q).2.1 := by
      intro k
      induction k with
      | zero => intro i q; exact Nat.le_refl _
      | succ k ih =>
        intro i q
        unfold aRun
        split
        · exact Nat.le_refl _
        · split
          · split
            · exact Nat.le_refl _
            · have := ih (i + 1) (aT i (K i) q).2
              omega
          · exact Nat.le_refl _
    have e := h i (ge (k + 1) i q)
    unfold aRun at h ⊢
    rw [e]
    by_cases c1 : K i = 267
    · rw [if_pos c1, if_pos c1]
    · rw [if_neg c1] at h
      rw [if_neg c1, if_neg c1]
      by_cases c2 : (aT i (K i) q).1 = 0
      · rw [if_pos c2] at h
        rw [if_pos c2, if_pos c2]
        by_cases c3 : K i = 266
        · rw [if_pos c3, if_pos c3]
        · rw [if_neg c3] at h
          rw [if_neg c3, if_neg c3]
          exact ih (i + 1) _ h
      · rw [if_neg c2, if_neg c2]
/-- the new text is read as the old one -/
theorem nt_run (h : pOk b n) (hc : Nme c l) (hU : ∀ t, t < pE b n → U t = true → kK b n t = 264) : pR (nwB b n U c l) (nwN b n U l) = pR b n := aRun_cong 4001 0 aQ0 (fun _ ht => (nt_tok h hc hU ht).2.1)
theorem nt_ok (h : pOk b n) (hc : Nme c l) (hU : ∀ t, t < pE b n → U t = true → kK b n t = 264) (hn : nwN b n U l ≤ 4000) : pOk (nwB b n U c l) (nwN b n U l) := ⟨fun i hi => nw_lt h.1 hc hi, hn, by rw [nt_run h hc hU]; exact h.2.2⟩
end NTX
