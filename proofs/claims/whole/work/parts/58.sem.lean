/-! WHAT A REFERENCE MEANS, by sets: q the table, nk r d 'declaration d bears the name of reference r' -/
section SEM
variable (q : Nat → Nat → Nat) (nk : Nat → Nat → Bool)
def mH (r s d : Nat) : Prop := d < q 0 1 ∧ q 3 d = s ∧ nk r d = true
/-- n imports from s to t, none of them out of a scope that has the name -/
def mRn (E : Nat → Nat → Prop) (r : Nat) : Nat → Nat → Nat → Prop
  | 0, s, t => s = t
  | n + 1, s, t => (∀ d, ¬ mH q nk r s d) ∧ ∃ u, E s u ∧ mRn E r n u t
def mF (E : Nat → Nat → Prop) (r s d : Nat) : Prop := ∃ n t, mRn q nk E r n s t ∧ mH q nk r t d
/-- k levels up -/
def mCn (E : Nat → Nat → Prop) (r : Nat) : Nat → Nat → Nat → Prop
  | 0, s, d => mF q nk E r s d
  | k + 1, s, d => (∀ d', ¬ mF q nk E r s d') ∧ q 1 s ≠ 0 ∧ mCn E r k (q 1 s - 1) d
def mC (E : Nat → Nat → Prop) (r s d : Nat) : Prop := ∃ k, mCn q nk E r k s d
def mI (σ : Nat → Bool) (r : Nat) : Nat → Bool := fun x => decide (x = r) || σ x
def mEd (f : (Nat → Bool) → Nat → Nat → Prop) (σ : Nat → Bool) (s u : Nat) : Prop := ∃ r, r < q 0 2 ∧ q 8 r = s + 1 ∧ σ r = false ∧ ∃ d, f (mI σ r) r d ∧ q 5 d = u + 1
/-- the meaning while the references of σ are seen, r one of them -/
def mM : Nat → (Nat → Bool) → Nat → Nat → Prop
  | 0, _, _, _ => False
  | k + 1, σ, r, d => mC q nk (mEd q (mM k) σ) r (q 6 r) d
def mCt : Nat → (Nat → Bool) → Nat
  | 0, _ => 0
  | n + 1, σ => mCt n σ + (if σ n = true then 0 else 1)
/-- statement i has a seen reference -/
def mTo (σ : Nat → Bool) (i : Nat) : Prop := ∃ x, x < q 0 2 ∧ σ x = true ∧ q 15 x = i + 1
/-- x stands before r in its long name -/
def mX (r x : Nat) : Prop := x < r ∧ ∀ y, x < y → y ≤ r → q 2 (q 6 y) = 6
end SEM
theorem mCt_le (σ : Nat → Bool) : ∀ n, mCt n σ ≤ n := by
  intro n
  induction n with
  | zero => exact Nat.le_refl _
  | succ n ih =>
    unfold mCt
    split <;> omega
theorem mCt_ins {σ : Nat → Bool} {r : Nat} (h : σ r = false) : ∀ n, mCt n (mI σ r) + (if r < n then 1 else 0) = mCt n σ := by
  intro n
  induction n with
  | zero => simp [mCt]
  | succ n ih =>
    by_cases c : n = r
    · subst c
      have e : mI σ n n = true := by simp [mI]
      simp at ih
      simp [mCt, e, h, ih]
    · have e : mI σ r n = σ n := by simp [mI, c]
      by_cases c2 : r < n
      · have c3 : r < n + 1 := by omega
        simp only [c2, if_true] at ih
        simp only [mCt, e, c3, if_true]
        omega
      · have c3 : ¬ r < n + 1 := by omega
        simp only [c2, if_false] at ih
        simp only [mCt, e, c3, if_false]
        omega
theorem mI_t {σ : Nat → Bool} {r x : Nat} : mI σ r x = true ↔ x = r ∨ σ x = true := by simp [mI]
theorem mI_f {σ : Nat → Bool} {r x : Nat} : mI σ r x = false ↔ x ≠ r ∧ σ x = false := by simp [mI]
section SEM
variable {q : Nat → Nat → Nat} {nk : Nat → Nat → Bool}
theorem mRn_cong {E E' : Nat → Nat → Prop} {r : Nat} {P : Nat → Prop} (h1 : ∀ s u, P s → E s u → P u) (h2 : ∀ s u, P s → (E s u ↔ E' s u)) : ∀ (n s t : Nat), P s → (mRn q nk E r n s t ↔ mRn q nk E' r n s t) := by
  intro n
  induction n with
  | zero => intro s t _; exact Iff.rfl
  | succ n ih =>
    intro s t hs
    constructor
    · rintro ⟨a, u, b, c⟩
      exact ⟨a, u, (h2 s u hs).mp b, (ih u t (h1 s u hs b)).mp c⟩
    · rintro ⟨a, u, b, c⟩
      have b' := (h2 s u hs).mpr b
      exact ⟨a, u, b', (ih u t (h1 s u hs b')).mpr c⟩
theorem mF_cong {E E' : Nat → Nat → Prop} {r : Nat} {P : Nat → Prop} (h1 : ∀ s u, P s → E s u → P u) (h2 : ∀ s u, P s → (E s u ↔ E' s u)) {s d : Nat} (hs : P s) : mF q nk E r s d ↔ mF q nk E' r s d := by
  constructor
  · rintro ⟨n, t, a, b⟩
    exact ⟨n, t, (mRn_cong h1 h2 n s t hs).mp a, b⟩
  · rintro ⟨n, t, a, b⟩
    exact ⟨n, t, (mRn_cong h1 h2 n s t hs).mpr a, b⟩
theorem mCn_cong {E E' : Nat → Nat → Prop} {r : Nat} {P : Nat → Prop} (h1 : ∀ s u, P s → E s u → P u) (h2 : ∀ s u, P s → (E s u ↔ E' s u)) (h3 : ∀ s, P s → q 1 s ≠ 0 → P (q 1 s - 1)) : ∀ (k s d : Nat), P s → (mCn q nk E r k s d ↔ mCn q nk E' r k s d) := by
  intro k
  induction k with
  | zero => intro s d hs; exact mF_cong h1 h2 hs
  | succ k ih =>
    intro s d hs
    constructor
    · rintro ⟨a, b, c⟩
      exact ⟨fun d' h => a d' ((mF_cong h1 h2 hs).mpr h), b, (ih _ d (h3 s hs b)).mp c⟩
    · rintro ⟨a, b, c⟩
      exact ⟨fun d' h => a d' ((mF_cong h1 h2 hs).mp h), b, (ih _ d (h3 s hs b)).mpr c⟩
theorem mC_cong {E E' : Nat → Nat → Prop} {r : Nat} {P : Nat → Prop} (h1 : ∀ s u, P s → E s u → P u) (h2 : ∀ s u, P s → (E s u ↔ E' s u)) (h3 : ∀ s, P s → q 1 s ≠ 0 → P (q 1 s - 1)) {s d : Nat} (hs : P s) : mC q nk E r s d ↔ mC q nk E' r s d :=
  ⟨fun ⟨k, h⟩ => ⟨k, (mCn_cong h1 h2 h3 k s d hs).mp h⟩, fun ⟨k, h⟩ => ⟨k, (mCn_cong h1 h2 h3 k s d hs).mpr h⟩⟩
theorem mCn_d {E : Nat → Nat → Prop} {r : Nat} : ∀ (k s d : Nat), mCn q nk E r k s d → d < q 0 1 := by
  intro k
  induction k with
  | zero =>
    rintro s d ⟨n, t, -, h⟩
    exact h.1
  | succ k ih =>
    rintro s d ⟨-, -, h⟩
    exact ih _ d h
theorem mM_d {k : Nat} {σ : Nat → Bool} {r d : Nat} (h : mM q nk k σ r d) : d < q 0 1 := by
  cases k with
  | zero => cases h
  | succ k =>
    obtain ⟨j, h⟩ := h
    exact mCn_d j _ d h
/-- what holds of a table that a text made -/
def mQ (q : Nat → Nat → Nat) : Prop := aS q ∧ kgA q ∧ kgB q
theorem mX_15 (hq : mQ q) {x : Nat} : ∀ (n r : Nat), r = x + n → r < q 0 2 → (∀ y, x < y → y ≤ r → q 2 (q 6 y) = 6) → q 15 x = q 15 r := by
  intro n
  induction n with
  | zero =>
    intro r h _ _
    rw [h]
    rfl
  | succ n ih =>
    intro r h hr hy
    have e := ih (x + n) rfl (by omega) (fun y h1 h2 => hy y h1 (by omega))
    have a := ((hq.2.2.1 r hr).1 (hy r (by omega) (Nat.le_refl _))).2.2
    rw [e, a, show r - 1 = x + n by omega]
theorem mX_st (hq : mQ q) {r x : Nat} (hr : r < q 0 2) (h : mX q r x) : q 15 x = q 15 r := mX_15 hq (r - x) r (by have := h.1; omega) hr h.2
/-- the one import of a LONG scope -/
theorem mLong (hq : mQ q) {r r' : Nat} (hr : r < q 0 2) (hr' : r' < q 0 2) (hL : q 2 (q 6 r) = 6) (h8 : q 8 r' = q 6 r + 1) : r' + 1 = r := by
  have a := (hq.2.2.1 r' hr').2 (by omega)
  rw [h8, show q 6 r + 1 - 1 = q 6 r by omega] at a
  have b := a.1 hL
  exact hq.2.2.2.2 (r' + 1) r b.1 hr b.2 (by rw [b.2]; exact hL)
/-- the imports of another scope -/
theorem mStm (hq : mQ q) {s r' : Nat} (hr' : r' < q 0 2) (hL : q 2 s ≠ 6) (h8 : q 8 r' = s + 1) : ∃ i, i < q 0 3 ∧ q 14 i = r' ∧ q 12 i = s := by
  have a := (hq.2.2.1 r' hr').2 (by omega)
  rw [h8, show s + 1 - 1 = s by omega] at a
  exact a.2 hL
/-- a long name that looks through a seen reference means nothing -/
theorem mBlk (hq : mQ q) : ∀ (k : Nat) (σ : Nat → Bool) (r d : Nat), r < q 0 2 → (∃ x, mX q r x ∧ σ x = true) → ¬ mM q nk k σ r d := by
  intro k
  induction k with
  | zero => intro σ r d _ _ h; cases h
  | succ k ih =>
    rintro σ r d hr ⟨x, hx, hs⟩ ⟨j, h⟩
    have hL : q 2 (q 6 r) = 6 := hx.2 r hx.1 (Nat.le_refl _)
    cases j with
    | succ j =>
      obtain ⟨-, h1, -⟩ := h
      exact h1 ((hq.2.1.1 (q 6 r) (hq.1.2.2.2.1 r hr).1).1 hL)
    | zero =>
      obtain ⟨n, t, h1, h2⟩ := h
      cases n with
      | zero =>
        have e : q 6 r = t := h1
        have := (hq.2.1.2.1 d h2.1).1
        rw [h2.2.1, ← e] at this
        exact this hL
      | succ n =>
        obtain ⟨-, u, ⟨r', hr', h8, hf, d', hM, -⟩, -⟩ := h1
        have e := mLong hq hr hr' hL h8
        have hx1 := hx.1
        by_cases c : x = r'
        · rw [c, hf] at hs
          cases hs
        · exact ih _ r' d' hr' ⟨x, ⟨by omega, fun y h1 h2 => hx.2 y h1 (by omega)⟩, mI_t.mpr (Or.inr hs)⟩ hM
theorem mTo_ins {σ : Nat → Bool} {r i : Nat} (hr : r < q 0 2) : mTo q (mI σ r) i ↔ mTo q σ i ∨ q 15 r = i + 1 := by
  constructor
  · rintro ⟨x, h1, h2, h3⟩
    rcases mI_t.mp h2 with h | h
    · subst h
      exact Or.inr h3
    · exact Or.inl ⟨x, h1, h, h3⟩
  · rintro (⟨x, h1, h2, h3⟩ | h)
    · exact ⟨x, h1, mI_t.mpr (Or.inr h2), h3⟩
    · exact ⟨r, hr, mI_t.mpr (Or.inl rfl), h⟩
/-- blocked statements bring nothing -/
theorem mTo_blk (hq : mQ q) {k i : Nat} {σ : Nat → Bool} {d : Nat} (hi : i < q 0 3) (ht : mTo q σ i) (hf : σ (q 14 i) = false) : ¬ mM q nk k (mI σ (q 14 i)) (q 14 i) d := by
  obtain ⟨x, h1, h2, h3⟩ := ht
  have g := hq.2.2.2.1 i hi
  have b := (g.2.2.2.1 x h1).mp h3
  have hl := (hq.1.2.2.2.2.2 i hi).2.2
  have hne : x ≠ q 14 i := fun e => by
    rw [e, hf] at h2
    cases h2
  exact mBlk hq k _ (q 14 i) d hl ⟨x, ⟨by omega, fun y h4 h5 => g.2.2.2.2 y (by omega) h5⟩, mI_t.mpr (Or.inr h2)⟩
theorem st14 (hq : mQ q) {i : Nat} (hi : i < q 0 3) : q 14 i < q 0 2 ∧ q 15 (q 14 i) = i + 1 ∧ q 8 (q 14 i) = q 12 i + 1 ∧ q 2 (q 12 i) ≠ 6 ∧ q 12 i < q 0 0 := by
  have g := hq.2.2.2.1 i hi
  have b := hq.1.2.2.2.2.2 i hi
  exact ⟨b.2.2, (g.2.2.2.1 _ b.2.2).mpr ⟨b.2.1, Nat.le_refl _⟩, g.1, g.2.1, b.1⟩
/-- only the statements with a seen reference matter -/
theorem mDep (hq : mQ q) : ∀ (k k' : Nat) (σ σ' : Nat → Bool) (r : Nat), r < q 0 2 → mCt (q 0 2) σ < k → mCt (q 0 2) σ' < k' → (∀ i, i < q 0 3 → (mTo q σ i ↔ mTo q σ' i)) → (∀ x, mX q r x → σ x = false ∧ σ' x = false) → σ r = true → σ' r = true → ∀ d, (mM q nk k σ r d ↔ mM q nk k' σ' r d) := by
  intro k
  induction k with
  | zero => intro k' σ σ' r _ h; omega
  | succ k ih =>
    intro k' σ σ' r hr hk hk' ht hx hσ hσ' d
    obtain ⟨k', rfl⟩ : ∃ j, k' = j + 1 := ⟨k' - 1, by omega⟩
    have hsz : ∀ (τ : Nat → Bool) (x : Nat), x < q 0 2 → τ x = false → mCt (q 0 2) (mI τ x) + 1 = mCt (q 0 2) τ := fun τ x h1 h2 => by
      have := mCt_ins h2 (q 0 2)
      rw [if_pos h1] at this
      exact this
    show mC q nk (mEd q (mM q nk k) σ) r (q 6 r) d ↔ mC q nk (mEd q (mM q nk k') σ') r (q 6 r) d
    refine mC_cong (P := fun s => s < q 0 0 ∧ (q 2 s ≠ 6 ∨ s = q 6 r)) ?_ ?_ ?_ ⟨(hq.1.2.2.2.1 r hr).1, Or.inr rfl⟩
    · rintro s u hs ⟨r', h1, h2, h3, d', h4, h5⟩
      have hd := mM_d h4
      have a := hq.2.1.2.1 d' hd
      have b := hq.1.2.2.1 d' hd
      rw [h5, show u + 1 - 1 = u by omega] at a
      exact ⟨by omega, Or.inl (a.2 (by omega))⟩
    · rintro s u ⟨hs0, hs⟩
      by_cases hL : q 2 s = 6
      · have e : s = q 6 r := by
          rcases hs with h | h
          · exact absurd hL h
          · exact h
        subst e
        have rp : ∀ r', r' < q 0 2 → q 8 r' = q 6 r + 1 → σ r' = false ∧ σ' r' = false ∧ ∀ d, (mM q nk k (mI σ r') r' d ↔ mM q nk k' (mI σ' r') r' d) := by
          intro r' h1 h2
          have e := mLong hq hr h1 hL h2
          have hX : mX q r r' := ⟨by omega, fun y h3 h4 => by rw [show y = r by omega]; exact hL⟩
          have h15 := mX_st hq hr hX
          obtain ⟨hf, hf'⟩ := hx r' hX
          refine ⟨hf, hf', ih k' (mI σ r') (mI σ' r') r' h1 ?_ ?_ ?_ ?_ (mI_t.mpr (Or.inl rfl)) (mI_t.mpr (Or.inl rfl))⟩
          · have := hsz σ r' h1 hf
            omega
          · have := hsz σ' r' h1 hf'
            omega
          · intro i hi
            rw [mTo_ins h1, mTo_ins h1, ht i hi]
          · intro x hxx
            have hX2 : mX q r x := ⟨by have := hxx.1; omega, fun y h3 h4 => by
              by_cases c : y = r
              · rw [c]; exact hL
              · exact hxx.2 y h3 (by omega)⟩
            have := hx x hX2
            have hl := hxx.1
            exact ⟨mI_f.mpr ⟨by omega, this.1⟩, mI_f.mpr ⟨by omega, this.2⟩⟩
        constructor
        · rintro ⟨r', h1, h2, h3, d', h4, h5⟩
          obtain ⟨a, c, e⟩ := rp r' h1 h2
          exact ⟨r', h1, h2, c, d', (e d').mp h4, h5⟩
        · rintro ⟨r', h1, h2, h3, d', h4, h5⟩
          obtain ⟨a, c, e⟩ := rp r' h1 h2
          exact ⟨r', h1, h2, a, d', (e d').mpr h4, h5⟩
      · have rp : ∀ i, i < q 0 3 → ¬ mTo q σ i → σ (q 14 i) = false ∧ σ' (q 14 i) = false ∧ ∀ d, (mM q nk k (mI σ (q 14 i)) (q 14 i) d ↔ mM q nk k' (mI σ' (q 14 i)) (q 14 i) d) := by
          intro i hi hn
          have hn' : ¬ mTo q σ' i := fun h => hn ((ht i hi).mpr h)
          obtain ⟨l1, l2, -⟩ := st14 hq hi
          have hf : ∀ (τ : Nat → Bool), ¬ mTo q τ i → ∀ x, x < q 0 2 → q 15 x = i + 1 → τ x = false := fun τ hτ x h1 h2 => by
            cases h : τ x with
            | false => rfl
            | true => exact absurd ⟨x, h1, h, h2⟩ hτ
          refine ⟨hf σ hn _ l1 l2, hf σ' hn' _ l1 l2, ih k' _ _ (q 14 i) l1 ?_ ?_ ?_ ?_ (mI_t.mpr (Or.inl rfl)) (mI_t.mpr (Or.inl rfl))⟩
          · have := hsz σ _ l1 (hf σ hn _ l1 l2)
            omega
          · have := hsz σ' _ l1 (hf σ' hn' _ l1 l2)
            omega
          · intro j hj
            rw [mTo_ins l1, mTo_ins l1, ht j hj]
          · intro x hxx
            have h15 := mX_st hq l1 hxx
            have hl := hxx.1
            exact ⟨mI_f.mpr ⟨by omega, hf σ hn x (by omega) (by rw [h15]; exact l2)⟩, mI_f.mpr ⟨by omega, hf σ' hn' x (by omega) (by rw [h15]; exact l2)⟩⟩
        constructor
        · rintro ⟨r', h1, h2, h3, d', h4, h5⟩
          obtain ⟨i, hi, rfl, h12⟩ := mStm hq h1 hL h2
          have hn : ¬ mTo q σ i := fun h => mTo_blk hq hi h h3 h4
          obtain ⟨a, c, e⟩ := rp i hi hn
          exact ⟨q 14 i, h1, h2, c, d', (e d').mp h4, h5⟩
        · rintro ⟨r', h1, h2, h3, d', h4, h5⟩
          obtain ⟨i, hi, rfl, h12⟩ := mStm hq h1 hL h2
          have hn : ¬ mTo q σ' i := fun h => mTo_blk hq hi h h3 h4
          obtain ⟨a, c, e⟩ := rp i hi (fun h => hn ((ht i hi).mp h))
          exact ⟨q 14 i, h1, h2, a, d', (e d').mpr h4, h5⟩
    · rintro s ⟨hs0, -⟩ h1
      have a := (hq.1.2.1 s hs0).1
      exact ⟨by omega, Or.inl ((hq.2.1.1 s hs0).2 h1)⟩
end SEM
