/-! WHAT A REFERENCE MEANS, by blocked statements; paths that avoid scopes -/
def mSc (q : Nat → Nat → Nat) (B : Nat → Bool) (r : Nat) : Nat → Bool := fun x => decide (x = r) || (List.range (q 0 3)).any (fun j => B j && decide (x = q 14 j) && decide (q 15 r ≠ j + 1))
/-- the meaning of r while the statements of B are blocked -/
def mB (q : Nat → Nat → Nat) (nk : Nat → Nat → Bool) (B : Nat → Bool) (r d : Nat) : Prop := mM q nk 200 (mSc q B r) r d
def mEc (q : Nat → Nat → Nat) (nk : Nat → Nat → Bool) (B : Nat → Bool) (s u : Nat) : Prop := ∃ i, i < q 0 3 ∧ q 12 i = s ∧ B i = false ∧ ∃ d, mB q nk (mI B i) (q 14 i) d ∧ q 5 d = u + 1
def mOk (q : Nat → Nat → Nat) (B : Nat → Bool) (r : Nat) : Prop := ∀ i, q 15 r = i + 1 → B i = true
section SEM
variable {q : Nat → Nat → Nat} {nk : Nat → Nat → Bool} {B : Nat → Bool}
theorem mSc_t {r x : Nat} : mSc q B r x = true ↔ x = r ∨ ∃ j, j < q 0 3 ∧ B j = true ∧ x = q 14 j ∧ q 15 r ≠ j + 1 := by
  unfold mSc
  rw [Bool.or_eq_true, decide_eq_true_eq, List.any_eq_true]
  constructor
  · rintro (h | ⟨j, h1, h2⟩)
    · exact Or.inl h
    · simp only [Bool.and_eq_true, decide_eq_true_eq] at h2
      exact Or.inr ⟨j, List.mem_range.mp h1, h2.1.1, h2.1.2, h2.2⟩
  · rintro (h | ⟨j, h1, h2, h3, h4⟩)
    · exact Or.inl h
    · refine Or.inr ⟨j, List.mem_range.mpr h1, ?_⟩
      simp only [Bool.and_eq_true, decide_eq_true_eq]
      exact ⟨⟨h2, h3⟩, h4⟩
theorem mSc_to (hq : mQ q) {r : Nat} (hr : r < q 0 2) (ok : mOk q B r) {i : Nat} (hi : i < q 0 3) : mTo q (mSc q B r) i ↔ B i = true := by
  constructor
  · rintro ⟨x, h1, h2, h3⟩
    rcases mSc_t.mp h2 with rfl | ⟨j, h4, h5, rfl, h6⟩
    · exact ok i h3
    · have := (st14 hq h4).2.1
      have e : i = j := by omega
      rw [e]
      exact h5
  · intro h
    by_cases c : q 15 r = i + 1
    · exact ⟨r, hr, mSc_t.mpr (Or.inl rfl), c⟩
    · obtain ⟨a, b, -⟩ := st14 hq hi
      exact ⟨q 14 i, a, mSc_t.mpr (Or.inr ⟨i, hi, h, rfl, c⟩), b⟩
theorem mSc_x (hq : mQ q) {r x : Nat} (hr : r < q 0 2) (h : mX q r x) : mSc q B r x = false := by
  cases e : mSc q B r x with
  | false => rfl
  | true =>
    rcases mSc_t.mp e with rfl | ⟨j, h4, h5, rfl, h6⟩
    · have := h.1
      omega
    · have := mX_st hq hr h
      have := (st14 hq h4).2.1
      omega
theorem mUse (hq : mQ q) {k r : Nat} {σ : Nat → Bool} (hr : r < q 0 2) (hk : mCt (q 0 2) σ < k) (ht : ∀ i, i < q 0 3 → (mTo q σ i ↔ B i = true)) (hx : ∀ x, mX q r x → σ x = false) (hσ : σ r = true) (d : Nat) : mM q nk k σ r d ↔ mB q nk B r d := by
  have ok : mOk q B r := fun i h => by
    have hl := (hq.1.2.2.2.1 r hr).2.2
    exact (ht i (by omega)).mp ⟨r, hr, hσ, h⟩
  have c := mCt_le (mSc q B r) (q 0 2)
  have l := hq.1.1.2.2.2.1
  exact mDep hq k 200 σ (mSc q B r) r hr hk (by omega) (fun i hi => (ht i hi).trans (mSc_to hq hr ok hi).symm) (fun x h => ⟨hx x h, mSc_x hq hr h⟩) hσ (mSc_t.mpr (Or.inl rfl)) d
theorem mEd_Ec (hq : mQ q) {k : Nat} {σ : Nat → Bool} (hk : mCt (q 0 2) σ < k + 1) (ht : ∀ i, i < q 0 3 → (mTo q σ i ↔ B i = true)) {s : Nat} (hs : q 2 s ≠ 6) (u : Nat) : mEd q (mM q nk k) σ s u ↔ mEc q nk B s u := by
  have rp : ∀ i, i < q 0 3 → B i = false → σ (q 14 i) = false ∧ ∀ d, (mM q nk k (mI σ (q 14 i)) (q 14 i) d ↔ mB q nk (mI B i) (q 14 i) d) := by
    intro i hi hB
    obtain ⟨l1, l2, -⟩ := st14 hq hi
    have hn : ¬ mTo q σ i := fun h => by
      have := (ht i hi).mp h
      rw [hB] at this
      cases this
    have hf : ∀ x, x < q 0 2 → q 15 x = i + 1 → σ x = false := fun x h1 h2 => by
      cases h : σ x with
      | false => rfl
      | true => exact absurd ⟨x, h1, h, h2⟩ hn
    refine ⟨hf _ l1 l2, fun d => mUse hq l1 ?_ ?_ ?_ (mI_t.mpr (Or.inl rfl)) d⟩
    · have := mCt_ins (hf _ l1 l2) (q 0 2)
      rw [if_pos l1] at this
      omega
    · intro j hj
      rw [mTo_ins l1, ht j hj, mI_t, l2]
      constructor
      · rintro (h | h)
        · exact Or.inr h
        · exact Or.inl (by omega)
      · rintro (h | h)
        · exact Or.inr (by omega)
        · exact Or.inl h
    · intro x hxx
      have h15 := mX_st hq l1 hxx
      have hl := hxx.1
      exact mI_f.mpr ⟨by omega, hf x (by omega) (by rw [h15]; exact l2)⟩
  constructor
  · rintro ⟨r', h1, h2, h3, d', h4, h5⟩
    obtain ⟨i, hi, rfl, h12⟩ := mStm hq h1 hs h2
    have hB : B i = false := by
      cases e : B i with
      | false => rfl
      | true => exact absurd h4 (mTo_blk hq hi ((ht i hi).mpr e) h3)
    exact ⟨i, hi, h12, hB, d', ((rp i hi hB).2 d').mp h4, h5⟩
  · rintro ⟨i, hi, h12, hB, d, h4, h5⟩
    obtain ⟨l1, l2, l3, -⟩ := st14 hq hi
    exact ⟨q 14 i, l1, by rw [l3, h12], (rp i hi hB).1, d, ((rp i hi hB).2 d).mpr h4, h5⟩
theorem mEc_ok (hq : mQ q) {s u : Nat} (h : mEc q nk B s u) : u < q 0 0 ∧ q 2 u ≠ 6 := by
  obtain ⟨i, -, -, -, d, h4, h5⟩ := h
  have hd := mM_d h4
  have a := hq.2.1.2.1 d hd
  have b := hq.1.2.2.1 d hd
  rw [h5, show u + 1 - 1 = u by omega] at a
  exact ⟨by omega, a.2 (by omega)⟩
/-- a reference that is no further name of a long one -/
theorem mB_1 (hq : mQ q) {r : Nat} (hr : r < q 0 2) (ok : mOk q B r) (hL : q 2 (q 6 r) ≠ 6) (d : Nat) : mB q nk B r d ↔ mC q nk (mEc q nk B) r (q 6 r) d := by
  have c := mCt_le (mSc q B r) (q 0 2)
  have l := hq.1.1.2.2.2.1
  show mC q nk (mEd q (mM q nk 199) (mSc q B r)) r (q 6 r) d ↔ _
  refine mC_cong (P := fun s => s < q 0 0 ∧ q 2 s ≠ 6) ?_ ?_ ?_ ⟨(hq.1.2.2.2.1 r hr).1, hL⟩
  · rintro s u hs h
    exact mEc_ok hq ((mEd_Ec hq (by omega) (fun i hi => mSc_to hq hr ok hi) hs.2 u).mp h)
  · rintro s u hs
    exact mEd_Ec hq (by omega) (fun i hi => mSc_to hq hr ok hi) hs.2 u
  · rintro s ⟨hs0, -⟩ h1
    have a := (hq.1.2.1 s hs0).1
    exact ⟨by omega, (hq.2.1.1 s hs0).2 h1⟩
/-- a further name of a long one -/
theorem mB_2 (hq : mQ q) {r : Nat} (hr : r < q 0 2) (ok : mOk q B r) (hL : q 2 (q 6 r) = 6) (d : Nat) : mB q nk B r d ↔ ∃ d' u, mB q nk B (r - 1) d' ∧ q 5 d' = u + 1 ∧ mF q nk (mEc q nk B) r u d := by
  have c := mCt_le (mSc q B r) (q 0 2)
  have l := hq.1.1.2.2.2.1
  have kE := (hq.2.2.1 r hr).1 hL
  have hX : mX q r (r - 1) := ⟨by omega, fun y h3 h4 => by rw [show y = r by omega]; exact hL⟩
  have hf := mSc_x (B := B) hq hr hX
  have hsc := hq.1.2.2.2.1 r hr
  have prev : ∀ d', mM q nk 199 (mI (mSc q B r) (r - 1)) (r - 1) d' ↔ mB q nk B (r - 1) d' := by
    refine mUse hq (by omega) ?_ ?_ ?_ (mI_t.mpr (Or.inl rfl))
    · have := mCt_ins hf (q 0 2)
      rw [if_pos (by omega)] at this
      omega
    · intro i hi
      rw [mTo_ins (by omega), mSc_to hq hr ok hi]
      refine ⟨fun h => ?_, Or.inl⟩
      rcases h with h | h
      · exact h
      · exact ok i (by rw [kE.2.2]; exact h)
    · intro x hxx
      have hl := hxx.1
      have hX2 : mX q r x := ⟨by omega, fun y h3 h4 => by
        by_cases c : y = r
        · rw [c]; exact hL
        · exact hxx.2 y h3 (by omega)⟩
      exact mI_f.mpr ⟨by omega, mSc_x hq hr hX2⟩
  have noH : ∀ d, ¬ mH q nk r (q 6 r) d := fun d h => by
    have := (hq.2.1.2.1 d h.1).1
    rw [h.2.1] at this
    exact this hL
  have fnd : ∀ u, u < q 0 0 → q 2 u ≠ 6 → (mF q nk (mEd q (mM q nk 199) (mSc q B r)) r u d ↔ mF q nk (mEc q nk B) r u d) := fun u h1 h2 => by
    refine mF_cong (P := fun s => s < q 0 0 ∧ q 2 s ≠ 6) ?_ ?_ ⟨h1, h2⟩
    · rintro s u hs h
      exact mEc_ok hq ((mEd_Ec hq (by omega) (fun i hi => mSc_to hq hr ok hi) hs.2 u).mp h)
    · rintro s u hs
      exact mEd_Ec hq (by omega) (fun i hi => mSc_to hq hr ok hi) hs.2 u
  have own : ∀ d' u, d' < q 0 1 → q 5 d' = u + 1 → u < q 0 0 ∧ q 2 u ≠ 6 := fun d' u hd h5 => by
    have a := hq.2.1.2.1 d' hd
    have b := hq.1.2.2.1 d' hd
    rw [h5, show u + 1 - 1 = u by omega] at a
    exact ⟨by omega, a.2 (by omega)⟩
  show mC q nk (mEd q (mM q nk 199) (mSc q B r)) r (q 6 r) d ↔ _
  constructor
  · rintro ⟨j, h⟩
    cases j with
    | succ j =>
      obtain ⟨-, h1, -⟩ := h
      exact absurd ((hq.2.1.1 (q 6 r) hsc.1).1 hL) h1
    | zero =>
      obtain ⟨n, t, h1, h2⟩ := h
      cases n with
      | zero =>
        have e : q 6 r = t := h1
        rw [← e] at h2
        exact absurd h2 (noH d)
      | succ n =>
        obtain ⟨-, u, ⟨r', hr', h8, -, d', hM, h5⟩, hp⟩ := h1
        have e := mLong hq hr hr' hL h8
        have e' : r' = r - 1 := by omega
        subst e'
        have o := own d' u (mM_d hM) h5
        exact ⟨d', u, (prev d').mp hM, h5, (fnd u o.1 o.2).mp ⟨n, t, hp, h2⟩⟩
  · rintro ⟨d', u, hM, h5, h6⟩
    have o := own d' u (mM_d hM) h5
    obtain ⟨n, t, hp, h2⟩ := (fnd u o.1 o.2).mpr h6
    exact ⟨0, n + 1, t, ⟨noH, u, ⟨r - 1, by omega, kE.2.1, hf, d', (prev d').mpr hM, h5⟩, hp⟩, h2⟩
/-- the meaning of a reference -/
theorem mRoot (hq : mQ q) {r : Nat} (hr : r < q 0 2) (d : Nat) : mM q nk 200 (mI (fun _ => false) r) r d ↔ mB q nk (fun i => decide (q 15 r = i + 1)) r d := by
  have c := mCt_le (mI (fun _ => false) r) (q 0 2)
  have l := hq.1.1.2.2.2.1
  refine mUse hq hr (by omega) ?_ ?_ (mI_t.mpr (Or.inl rfl)) d
  · intro i hi
    rw [decide_eq_true_eq]
    constructor
    · rintro ⟨x, h1, h2, h3⟩
      rcases mI_t.mp h2 with rfl | h
      · exact h3
      · cases h
    · intro h
      exact ⟨r, hr, mI_t.mpr (Or.inl rfl), h⟩
  · intro x hx
    have := hx.1
    exact mI_f.mpr ⟨by omega, rfl⟩
/-! paths that avoid the scopes of S -/
def mAn (q : Nat → Nat → Nat) (nk : Nat → Nat → Bool) (E : Nat → Nat → Prop) (r : Nat) (S : Nat → Bool) : Nat → Nat → Nat → Prop
  | 0, s, t => S s = false ∧ s = t
  | n + 1, s, t => S s = false ∧ (∀ d, ¬ mH q nk r s d) ∧ ∃ u, E s u ∧ mAn q nk E r S n u t
def mA (q : Nat → Nat → Nat) (nk : Nat → Nat → Bool) (E : Nat → Nat → Prop) (r : Nat) (S : Nat → Bool) (s d : Nat) : Prop := ∃ n t, mAn q nk E r S n s t ∧ mH q nk r t d
variable {E : Nat → Nat → Prop} {r : Nat} {S : Nat → Bool}
theorem mAn_S {s : Nat} : ∀ n t, mAn q nk E r S n s t → S s = false := by
  intro n t h
  cases n with
  | zero => exact h.1
  | succ n => exact h.1
theorem mA_1 {s d : Nat} (h : S s = true) : ¬ mA q nk E r S s d := by
  rintro ⟨n, t, a, -⟩
  rw [mAn_S n t a] at h
  cases h
theorem mA_2 {s d d0 : Nat} (h : S s = false) (h0 : mH q nk r s d0) : mA q nk E r S s d ↔ mH q nk r s d := by
  constructor
  · rintro ⟨n, t, a, b⟩
    cases n with
    | zero => rw [a.2]; exact b
    | succ n => exact absurd h0 (a.2.1 d0)
  · intro hd
    exact ⟨0, s, ⟨h, rfl⟩, hd⟩
theorem mAn_cut {s : Nat} : ∀ (n u t : Nat), mAn q nk E r S n u t → mAn q nk E r (mI S s) n u t ∨ ∃ m, m ≤ n ∧ mAn q nk E r S m s t := by
  intro n
  induction n with
  | zero =>
    rintro u t ⟨a, b⟩
    by_cases c : u = s
    · subst c
      exact Or.inr ⟨0, Nat.le_refl _, a, b⟩
    · exact Or.inl ⟨mI_f.mpr ⟨c, a⟩, b⟩
  | succ n ih =>
    rintro u t ⟨a, b, v, e, p⟩
    by_cases c : u = s
    · subst c
      exact Or.inr ⟨n + 1, Nat.le_refl _, a, b, v, e, p⟩
    · rcases ih v t p with h | ⟨m, h1, h2⟩
      · exact Or.inl ⟨mI_f.mpr ⟨c, a⟩, b, v, e, h⟩
      · exact Or.inr ⟨m, by omega, h2⟩
theorem mAn_mono {s : Nat} : ∀ (n u t : Nat), mAn q nk E r (mI S s) n u t → mAn q nk E r S n u t := by
  intro n
  induction n with
  | zero =>
    rintro u t ⟨a, b⟩
    exact ⟨(mI_f.mp a).2, b⟩
  | succ n ih =>
    rintro u t ⟨a, b, v, e, p⟩
    exact ⟨(mI_f.mp a).2, b, v, e, ih v t p⟩
theorem mA_3 {s d : Nat} (h : S s = false) (h0 : ∀ d, ¬ mH q nk r s d) : mA q nk E r S s d ↔ ∃ u, E s u ∧ mA q nk E r (mI S s) u d := by
  constructor
  · rintro ⟨n, t, a, b⟩
    have key : ∀ (n u : Nat), E s u → mAn q nk E r S n u t → ∃ u, E s u ∧ mA q nk E r (mI S s) u d := by
      intro n
      induction n using Nat.strongRecOn with
      | ind n ih =>
        intro u e p
        rcases mAn_cut (s := s) n u t p with h1 | ⟨m, h1, h2⟩
        · exact ⟨u, e, n, t, h1, b⟩
        · cases m with
          | zero =>
            have e2 : s = t := h2.2
            rw [← e2] at b
            exact absurd b (h0 d)
          | succ m =>
            obtain ⟨-, -, v, ev, pv⟩ := h2
            exact ih m (by omega) v ev pv
    cases n with
    | zero =>
      have e2 : s = t := a.2
      rw [← e2] at b
      exact absurd b (h0 d)
    | succ n =>
      obtain ⟨-, -, u, e, p⟩ := a
      exact key n u e p
  · rintro ⟨u, e, n, t, a, b⟩
    exact ⟨n + 1, t, ⟨h, h0, u, e, mAn_mono n u t a⟩, b⟩
/-- scopes from which nothing is found may be avoided -/
theorem mA_5 {s d : Nat} (hS : ∀ x d, S x = true → ¬ mF q nk E r x d) : mA q nk E r S s d ↔ mF q nk E r s d := by
  constructor
  · rintro ⟨n, t, a, b⟩
    refine ⟨n, t, ?_, b⟩
    have key : ∀ n s, mAn q nk E r S n s t → mRn q nk E r n s t := by
      intro n
      induction n with
      | zero => rintro s ⟨-, h⟩; exact h
      | succ n ih => rintro s ⟨-, h, u, e, p⟩; exact ⟨h, u, e, ih u p⟩
    exact key n s a
  · rintro ⟨n, t, a, b⟩
    refine ⟨n, t, ?_, b⟩
    have key : ∀ n s, mRn q nk E r n s t → mAn q nk E r S n s t := by
      intro n
      induction n with
      | zero =>
        intro s h
        refine ⟨?_, h⟩
        cases e : S s with
        | false => rfl
        | true => exact absurd ⟨0, t, h, b⟩ (hS s d e)
      | succ n ih =>
        rintro s ⟨h, u, e, p⟩
        refine ⟨?_, h, u, e, ih u p⟩
        cases e' : S s with
        | false => rfl
        | true => exact absurd ⟨n + 1, t, ⟨h, u, e, p⟩, b⟩ (hS s d e')
    exact key n s a
end SEM
