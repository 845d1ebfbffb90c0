/-! THE TOKENS OF NAMES -/
def tkS (q q' : Nat → Nat → Nat) : Prop := q' 0 1 = q 0 1 ∧ q' 0 2 = q 0 2 ∧ (∀ x, q' 4 x = q 4 x) ∧ (∀ x, q' 7 x = q 7 x)
def tkD (i : Nat) (q q' : Nat → Nat → Nat) : Prop := q' 0 1 = q 0 1 + 1 ∧ q' 0 2 = q 0 2 ∧ (∀ x, q' 4 x = if x = q 0 1 then i else q 4 x) ∧ (∀ x, q' 7 x = q 7 x)
def tkR (i : Nat) (q q' : Nat → Nat → Nat) : Prop := q' 0 1 = q 0 1 ∧ q' 0 2 = q 0 2 + 1 ∧ (∀ x, q' 4 x = q 4 x) ∧ (∀ x, q' 7 x = if x = q 0 2 then i else q 7 x)
section TOK
variable {q : Nat → Nat → Nat} {i k : Nat}
theorem tk_open {s : Nat} (h : (aOpen q s).1 = 0) : tkS q (aOpen q s).2 := by
  unfold aOpen at *
  split at h
  · cases h
  · rename_i c
    rw [if_neg c]
    simp [tkS, aTurn, uq]
theorem tk_sw {a b : Nat} (h : (aSW q a b).1 = 0) : tkS q (aSW q a b).2 := by
  unfold aSW at *
  split at h
  · cases h
  · rename_i c
    rw [if_neg c]
    simp [tkS, aTurn, aPush, aScope, uq]
theorem tk_first (h : (aFirst i q).1 = 0) : tkR i q (aFirst i q).2 := by
  unfold aFirst at *
  split at h
  · cases h
  · rename_i c
    rw [if_neg c]
    simp [tkR, aTurn, aRef, uq]
theorem tk_declIn {a b : Nat} (h : (aDeclIn i q a b).1 = 0) : tkD i q (aDeclIn i q a b).2 := by
  unfold aDeclIn at *
  split at h
  · cases h
  · rename_i c
    rw [if_neg c]
    simp [tkD, aTurn, aDecl, uq]
theorem tkS.d {p q' : Nat → Nat → Nat} (h : tkS q p) (g : tkD i p q') : tkD i q q' := by
  obtain ⟨h1, h2, h3, h4⟩ := h
  obtain ⟨g1, g2, g3, g4⟩ := g
  exact ⟨by omega, by omega, fun x => by rw [g3, h1, h3], fun x => by rw [g4, h4]⟩
theorem tkS.r {p q' : Nat → Nat → Nat} (h : tkS q p) (g : tkR i p q') : tkR i q q' := by
  obtain ⟨h1, h2, h3, h4⟩ := h
  obtain ⟨g1, g2, g3, g4⟩ := g
  exact ⟨by omega, by omega, fun x => by rw [g3, h3], fun x => by rw [g4, h2, h4]⟩
theorem tkS.s {p q' : Nat → Nat → Nat} (h : tkS q p) (g : tkS p q') : tkS q q' := by
  obtain ⟨h1, h2, h3, h4⟩ := h
  obtain ⟨g1, g2, g3, g4⟩ := g
  exact ⟨by omega, by omega, fun x => by rw [g3, h3], fun x => by rw [g4, h4]⟩
theorem tk_atom (h : (aAtom i k q).1 = 0) : tkS q (aAtom i k q).2 ∨ (k = 264 ∧ tkR i q (aAtom i k q).2) := by
  unfold aAtom at *
  by_cases c1 : k = 40
  · rw [if_pos c1] at h ⊢
    exact Or.inl ((show tkS q (aPush q 12 (q 0 6)) by simp [tkS, aPush, uq]).s (tk_open h))
  rw [if_neg c1] at h ⊢
  by_cases c2 : k = 259
  · rw [if_pos c2] at h ⊢
    exact Or.inl (tk_sw h)
  rw [if_neg c2] at h ⊢
  by_cases c3 : k = 260
  · rw [if_pos c3] at h ⊢
    exact Or.inl (by simp [tkS, aTurn, aPush, uq])
  rw [if_neg c3] at h ⊢
  by_cases c4 : k = 261
  · rw [if_pos c4] at h ⊢
    exact Or.inl (tk_sw h)
  rw [if_neg c4] at h ⊢
  by_cases c5 : k = 262
  · rw [if_pos c5] at h ⊢
    exact Or.inl (tk_sw h)
  rw [if_neg c5] at h ⊢
  by_cases c6 : k = 264
  · rw [if_pos c6] at h ⊢
    exact Or.inr ⟨c6, tk_first h⟩
  rw [if_neg c6] at h ⊢
  by_cases c7 : k = 265
  · rw [if_pos c7] at h ⊢
    exact Or.inl (by simp [tkS, aTurn, uq])
  · rw [if_neg c7] at h
    cases h
theorem tk_beh (h : (aBeh i k q).1 = 0) : tkS q (aBeh i k q).2 ∨ (k = 264 ∧ tkR i q (aBeh i k q).2) := by
  by_cases c : k = 40 ∨ k = 259 ∨ k = 260 ∨ k = 261 ∨ k = 262 ∨ k = 264 ∨ k = 265
  · by_cases t : topF q = 10
    · have e : aBeh i k q = (2, q) := by
        have : k ≠ 59 := by omega
        simp [aBeh, t, this]
      rw [e] at h
      cases h
    · have e : aBeh i k q = aAtom i k q := by
        have h1 : k ≠ 41 := by omega
        have h2 : k ≠ 43 := by omega
        have h3 : k ≠ 44 := by omega
        have h4 : k ≠ 59 := by omega
        have h5 : k ≠ 125 := by omega
        have h6 : k ≠ 263 := by omega
        simp [aBeh, t, h1, h2, h3, h4, h5, h6]
      rw [e] at h ⊢
      exact tk_atom h
  · left
    have na : aAtom i k q = (2, q) := aA_no (by omega) (by omega) (by omega) (by omega) (by omega) (by omega) (by omega)
    unfold aBeh at *
    rw [na] at h ⊢
    have sP : ∀ p s, tkS q p → tkS q (aPop p s) := fun p s hp => hp.s (by simp [tkS, aPop, aTurn, uq])
    have sC : ∀ s, tkS q (aClose q s) := fun s => by simp [tkS, aClose, aPop, aTurn, uq]
    have sT : ∀ s, tkS q (aTurn q s) := fun s => by simp [tkS, aTurn, uq]
    have sI : tkS q (aImp q) := by simp [tkS, aImp]
    have sN : tkS q (aIn q) := by simp [tkS, aIn, aTurn, aTop, uq]
    repeat' split at h
    all_goals first
      | (cases h; done)
      | skip
    all_goals simp_all
    all_goals first
      | exact sP _ _ sI
      | exact sC _
      | exact sT _
      | exact sN
      | exact sP _ _ ⟨rfl, rfl, fun _ => rfl, fun _ => rfl⟩
theorem tk_name (h : (aName i q).1 = 0) : tkD i q (aName i q).2 ∨ tkR i q (aName i q).2 := by
  unfold aName at *
  by_cases c1 : q 0 7 = 1
  · rw [if_pos c1] at h ⊢
    unfold aMod at *
    by_cases d1 : 60 ≤ q 0 1
    · rw [if_pos d1] at h
      cases h
    rw [if_neg d1] at h ⊢
    by_cases d2 : 64 ≤ q 0 0
    · rw [if_pos d2] at h
      cases h
    rw [if_neg d2] at h ⊢
    exact Or.inl (by simp [tkD, aTurn, aPush, aDecl, aScope, uq])
  rw [if_neg c1] at h ⊢
  by_cases c2 : q 0 7 = 2
  · rw [if_pos c2] at h ⊢
    unfold aImpN at *
    by_cases d1 : 6 ≤ q 0 3
    · rw [if_pos d1] at h
      cases h
    rw [if_neg d1] at h ⊢
    exact Or.inr ((show tkS q (uq (aPush q 10 (q 0 6)) 0 8 (q 0 2)) by simp [tkS, aPush, uq]).r (tk_first h))
  rw [if_neg c2] at h ⊢
  by_cases c3 : q 0 7 = 3
  · rw [if_pos c3] at h ⊢
    exact Or.inl ((show tkS q (aPush q 11 (q 0 6)) by simp [tkS, aPush, uq]).d (tk_declIn h))
  rw [if_neg c3] at h ⊢
  by_cases c4 : q 0 7 = 4
  · rw [if_pos c4] at h ⊢
    exact Or.inl ((show tkS q (uq q 0 6 (topI q)) by simp [tkS, uq]).d (tk_declIn h))
  rw [if_neg c4] at h ⊢
  by_cases c5 : q 0 7 = 5
  · rw [if_pos c5] at h ⊢
    left
    unfold aBind at *
    by_cases d1 : topF q = 3
    · rw [if_pos d1] at h ⊢
      by_cases d2 : 60 ≤ q 0 1
      · rw [if_pos d2] at h
        cases h
      rw [if_neg d2] at h ⊢
      by_cases d3 : 64 ≤ q 0 0
      · rw [if_pos d3] at h
        cases h
      rw [if_neg d3] at h ⊢
      exact (show tkS q (aTop (uq (aScope q 3 (topI q + 1)) 0 6 (topI q)) 3 (q 0 0)) by simp [tkS, aTop, aScope, uq]).d (tk_declIn h)
    rw [if_neg d1] at h ⊢
    by_cases d2 : topF q = 4
    · rw [if_pos d2] at h ⊢
      exact (show tkS q (uq q 0 6 (topI q)) by simp [tkS, uq]).d (tk_declIn h)
    · rw [if_neg d2] at h ⊢
      exact (show tkS q (uq q 0 6 (topO q)) by simp [tkS, uq]).d (tk_declIn h)
  rw [if_neg c5] at h ⊢
  right
  unfold aNext at *
  by_cases d0 : q 0 2 = 0
  · rw [if_pos d0] at h
    cases h
  rw [if_neg d0] at h ⊢
  by_cases d1 : 100 ≤ q 0 2
  · rw [if_pos d1] at h
    cases h
  rw [if_neg d1] at h ⊢
  by_cases d2 : 64 ≤ q 0 0
  · rw [if_pos d2] at h
    cases h
  rw [if_neg d2] at h ⊢
  simp [tkR, aTurn, aRef, aScope, uq]
theorem tk_T (h : (aT i k q).1 = 0) : tkS q (aT i k q).2 ∨ (k = 264 ∧ (tkD i q (aT i k q).2 ∨ tkR i q (aT i k q).2)) := by
  have sT : ∀ s, tkS q (aTurn q s) := fun s => by simp [tkS, aTurn, uq]
  have sC : ∀ s, tkS q (aClose q s) := fun s => by simp [tkS, aClose, aPop, aTurn, uq]
  have lift : ∀ a : Nat × (Nat → Nat → Nat), (tkS q a.2 ∨ (k = 264 ∧ tkR i q a.2)) → tkS q a.2 ∨ (k = 264 ∧ (tkD i q a.2 ∨ tkR i q a.2)) := fun a h => h.elim Or.inl (fun h => Or.inr ⟨h.1, Or.inr h.2⟩)
  unfold aT at *
  by_cases c0 : q 0 7 = 0
  · rw [if_pos c0] at h ⊢
    left
    unfold aDec at *
    repeat' split at h
    all_goals first
      | (cases h; done)
      | skip
    all_goals simp_all
    all_goals first
      | exact sC _
      | exact sT _
      | exact ⟨rfl, rfl, fun _ => rfl, fun _ => rfl⟩
  rw [if_neg c0] at h ⊢
  by_cases c7 : q 0 7 = 7
  · rw [if_pos c7] at h ⊢
    by_cases k1 : k = 61
    · rw [if_pos k1]
      exact Or.inl (sT _)
    · rw [if_neg k1] at h
      cases h
  rw [if_neg c7] at h ⊢
  by_cases c8 : q 0 7 = 8
  · rw [if_pos c8] at h ⊢
    by_cases k1 : k = 123
    · rw [if_pos k1] at h ⊢
      exact Or.inl (tk_open h)
    · rw [if_neg k1] at h
      cases h
  rw [if_neg c8] at h ⊢
  by_cases c9 : q 0 7 = 9
  · rw [if_pos c9] at h ⊢
    by_cases k1 : k = 123
    · rw [if_pos k1] at h ⊢
      exact Or.inl (tk_open h)
    · rw [if_neg k1] at h
      cases h
  rw [if_neg c9] at h ⊢
  by_cases c10 : q 0 7 = 10
  · rw [if_pos c10] at h ⊢
    exact lift _ (tk_atom h)
  rw [if_neg c10] at h ⊢
  by_cases c11 : q 0 7 = 11
  · rw [if_pos c11] at h ⊢
    by_cases k1 : k = 46
    · rw [if_pos k1]
      exact Or.inl (sT _)
    · rw [if_neg k1] at h ⊢
      exact lift _ (tk_beh h)
  rw [if_neg c11] at h ⊢
  by_cases c12 : q 0 7 = 12
  · rw [if_pos c12] at h ⊢
    exact lift _ (tk_beh h)
  rw [if_neg c12] at h ⊢
  by_cases k1 : k = 264
  · rw [if_pos k1] at h ⊢
    exact Or.inr ⟨k1, tk_name h⟩
  · rw [if_neg k1] at h
    cases h
/-- the names' tokens stand in their order -/
def tkI (K : Nat → Nat) (i : Nat) (q : Nat → Nat → Nat) : Prop := (∀ d, d < q 0 1 → q 4 d < i ∧ K (q 4 d) = 264) ∧ (∀ r, r < q 0 2 → q 7 r < i ∧ K (q 7 r) = 264) ∧ (∀ d d', d < d' → d' < q 0 1 → q 4 d < q 4 d') ∧ (∀ r r', r < r' → r' < q 0 2 → q 7 r < q 7 r') ∧ (∀ d r, d < q 0 1 → r < q 0 2 → q 4 d ≠ q 7 r)
theorem tkI_step {K : Nat → Nat} (g : tkI K i q) (h : (aT i (K i) q).1 = 0) : tkI K (i + 1) (aT i (K i) q).2 := by
  obtain ⟨g1, g2, g3, g4, g5⟩ := g
  rcases tk_T h with ⟨e1, e2, e3, e4⟩ | ⟨hk, ⟨e1, e2, e3, e4⟩ | ⟨e1, e2, e3, e4⟩⟩
  · unfold tkI
    simp only [e1, e2, e3, e4]
    exact ⟨fun d hd => ⟨by have := (g1 d hd).1; omega, (g1 d hd).2⟩, fun r hr => ⟨by have := (g2 r hr).1; omega, (g2 r hr).2⟩, g3, g4, g5⟩
  · unfold tkI
    simp only [e1, e2, e3, e4]
    refine ⟨fun d hd => ?_, fun r hr => ⟨by have := (g2 r hr).1; omega, (g2 r hr).2⟩, fun d d' h1 h2 => ?_, g4, fun d r hd hr => ?_⟩
    · by_cases c : d = q 0 1
      · rw [if_pos c]
        exact ⟨by omega, hk⟩
      · rw [if_neg c]
        have := g1 d (by omega)
        exact ⟨by omega, this.2⟩
    · by_cases c : d' = q 0 1
      · rw [if_pos c, if_neg (by omega)]
        exact (g1 d (by omega)).1
      · rw [if_neg c, if_neg (by omega)]
        exact g3 d d' h1 (by omega)
    · by_cases c : d = q 0 1
      · rw [if_pos c]
        have := (g2 r hr).1
        omega
      · rw [if_neg c]
        exact g5 d r (by omega) hr
  · unfold tkI
    simp only [e1, e2, e3, e4]
    refine ⟨fun d hd => ⟨by have := (g1 d hd).1; omega, (g1 d hd).2⟩, fun r hr => ?_, g3, fun d d' h1 h2 => ?_, fun d r hd hr => ?_⟩
    · by_cases c : r = q 0 2
      · rw [if_pos c]
        exact ⟨by omega, hk⟩
      · rw [if_neg c]
        have := g2 r (by omega)
        exact ⟨by omega, this.2⟩
    · by_cases c : d' = q 0 2
      · rw [if_pos c, if_neg (by omega)]
        exact (g2 d (by omega)).1
      · rw [if_neg c, if_neg (by omega)]
        exact g4 d d' h1 (by omega)
    · by_cases c : r = q 0 2
      · rw [if_pos c]
        have := (g1 d hd).1
        omega
      · rw [if_neg c]
        exact g5 d r hd (by omega)
theorem tkI_run {K : Nat → Nat} : ∀ (n i : Nat) (q : Nat → Nat → Nat), tkI K i q → (∀ t, t < i → K t ≠ 266 ∧ K t ≠ 267) → (aRun K n i q).1 = 0 → tkI K ((aRun K n i q).2.1 + 1) (aRun K n i q).2.2 ∧ K (aRun K n i q).2.1 = 266 ∧ ∀ t, t < (aRun K n i q).2.1 → K t ≠ 266 ∧ K t ≠ 267 := by
  intro n
  induction n with
  | zero => intro i q _ _ h; cases h
  | succ n ih =>
    intro i q hg ht h
    have e : aRun K (n + 1) i q = (if K i = 267 then (1, i, q) else if (aT i (K i) q).1 = 0 then (if K i = 266 then (0, i, (aT i (K i) q).2) else aRun K n (i + 1) (aT i (K i) q).2) else ((aT i (K i) q).1, i, (aT i (K i) q).2)) := rfl
    rw [e] at h ⊢
    by_cases c1 : K i = 267
    · rw [if_pos c1] at h
      cases h
    rw [if_neg c1] at h ⊢
    by_cases c2 : (aT i (K i) q).1 = 0
    · rw [if_pos c2] at h ⊢
      have g := tkI_step hg c2
      by_cases c3 : K i = 266
      · rw [if_pos c3]
        exact ⟨g, c3, ht⟩
      · rw [if_neg c3] at h ⊢
        refine ih (i + 1) _ g (fun t h' => ?_) h
        by_cases c : t = i
        · rw [c]
          exact ⟨c3, c1⟩
        · exact ht t (by omega)
    · rw [if_neg c2] at h
      exact absurd h c2
end TOK
