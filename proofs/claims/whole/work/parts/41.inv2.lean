/-! THE READER'S STEP KEEPS THE INVARIANT -/
theorem aZs_d {st d o nD nR nSt ls tf : Nat} (h : aZs st d o nD nR nSt ls tf) (ho : o ≤ 120) (hD : nD ≤ 60) : d ≤ 81 ∧ (0 < d → 40 ≤ o) := by
  unfold aZs at h
  omega
theorem tF_pos {q : Nat → Nat → Nat} (h : topF q ≠ 14) : 0 < q 0 4 := by
  unfold topF at h
  by_cases hd : 0 < q 0 4
  · exact hd
  · rw [if_neg hd] at h
    exact absurd rfl h
theorem tO_lt {q : Nat → Nat → Nat} (h : aS q) : topO q < q 0 0 := by
  obtain ⟨h1, h2, h3, h4, h5, h6⟩ := h
  have a := h5 (q 0 4 - 1)
  unfold topO
  split <;> omega
theorem tI_lt {q : Nat → Nat → Nat} (h : aS q) : topI q < q 0 0 := by
  obtain ⟨h1, h2, h3, h4, h5, h6⟩ := h
  have a := h5 (q 0 4 - 1)
  unfold topI
  split <;> omega
theorem tF_scope (q : Nat → Nat → Nat) (k p : Nat) : topF (aScope q k p) = topF q := by simp [topF, aScope, uq]
theorem tF_decl (q : Nat → Nat → Nat) (k p a : Nat) : topF (aDecl q k p a) = topF q := by simp [topF, aDecl, uq]
theorem tF_ref (q : Nat → Nat → Nat) (k p : Nat) : topF (aRef q k p) = topF q := by simp [topF, aRef, uq]
theorem tF_push (q : Nat → Nat → Nat) (k p : Nat) : topF (aPush q k p) = k := by simp [topF, aPush, uq]
theorem tF_turn (q : Nat → Nat → Nat) (k : Nat) : topF (aTurn q k) = topF q := by simp [topF, aTurn, uq]
theorem tF_u5 (q : Nat → Nat → Nat) (k : Nat) : topF (uq q 0 5 k) = topF q := by simp [topF, uq]
theorem tF_u6 (q : Nat → Nat → Nat) (k : Nat) : topF (uq q 0 6 k) = topF q := by simp [topF, uq]
theorem tF_u8 (q : Nat → Nat → Nat) (k : Nat) : topF (uq q 0 8 k) = topF q := by simp [topF, uq]
theorem tF_r8 (q : Nat → Nat → Nat) (r k : Nat) : topF (uq q 8 r k) = topF q := by simp [topF, uq]
theorem tF_top {q : Nat → Nat → Nat} (k p : Nat) (h : 0 < q 0 4) : topF (aTop q k p) = k := by simp [topF, aTop, uq, h]
theorem tF_pop {q : Nat → Nat → Nat} (s : Nat) (h : ∀ j, j + 1 < q 0 4 → q 9 j ≠ 10) : topF (aPop q s) ≠ 10 := by
  simp only [topF, aPop, aTurn, uq]
  simp
  intro h1
  split at h1
  · exact h (q 0 4 - 1 - 1) (by omega) h1
  · cases h1
theorem aZ_push {q : Nat → Nat → Nat} (f a : Nat) (h : ∀ j, j + 1 < q 0 4 → q 9 j ≠ 10) (ht : topF q ≠ 10) : ∀ j, j + 1 < (aPush q f a) 0 4 → (aPush q f a) 9 j ≠ 10 := by
  intro j hj
  have e : (aPush q f a) 0 4 = q 0 4 + 1 := by simp [aPush, uq]
  have e9 : (aPush q f a) 9 j = q 9 j := by
    simp only [aPush, uq]
    simp
    omega
  rw [e] at hj
  rw [e9]
  by_cases hl : j + 1 < q 0 4
  · exact h j hl
  · unfold topF at ht
    rw [if_pos (by omega), show q 0 4 - 1 = j by omega] at ht
    exact ht
theorem aZ_top {q : Nat → Nat → Nat} (f a : Nat) (h : ∀ j, j + 1 < q 0 4 → q 9 j ≠ 10) : ∀ j, j + 1 < (aTop q f a) 0 4 → (aTop q f a) 9 j ≠ 10 := by
  intro j hj
  have e : (aTop q f a) 0 4 = q 0 4 := by simp [aTop, uq]
  rw [e] at hj
  have e9 : (aTop q f a) 9 j = q 9 j := by
    simp only [aTop, uq]
    simp
    omega
  rw [e9]
  exact h j hj
theorem aZ_pop {q : Nat → Nat → Nat} (s : Nat) (h : ∀ j, j + 1 < q 0 4 → q 9 j ≠ 10) : ∀ j, j + 1 < (aPop q s) 0 4 → (aPop q s) 9 j ≠ 10 := by
  intro j hj
  have e : (aPop q s) 0 4 = q 0 4 - 1 := by simp [aPop, aTurn, uq]
  have e9 : (aPop q s) 9 j = q 9 j := by simp [aPop, aTurn, uq]
  rw [e] at hj
  rw [e9]
  exact h j (by omega)
theorem aW_turn {q : Nat → Nat → Nat} {s : Nat} (h : aW q) (hs : aZs s (q 0 4) (q 0 5) (q 0 1) (q 0 2) (q 0 3) (q 0 8) (topF q)) : aW (aTurn q s) := by
  obtain ⟨hS, hZ, hj⟩ := h
  refine ⟨aS_turn hS, ?_, ?_⟩
  · rw [tF_turn]
    simpa [aTurn, uq] using hs
  · simpa [aTurn, uq] using hj
theorem aW_open {q : Nat → Nat → Nat} {s : Nat} (hS : aS q) (hs : aZs s (q 0 4) (q 0 5 + 1) (q 0 1) (q 0 2) (q 0 3) (q 0 8) (topF q)) (hj : ∀ j, j + 1 < q 0 4 → q 9 j ≠ 10) (h0 : (aOpen q s).1 = 0) : aW (aOpen q s).2 := by
  unfold aOpen at h0 ⊢
  by_cases h : 120 ≤ q 0 5
  · rw [if_pos h] at h0
    cases h0
  · rw [if_neg h]
    refine ⟨aS_turn (aS_open hS (by omega)), ?_, ?_⟩
    · rw [tF_turn, tF_u5]
      simpa [aTurn, uq] using hs
    · simpa [aTurn, uq] using hj
theorem aW_pop {q : Nat → Nat → Nat} {s : Nat} (hS : aS q) (hj : ∀ j, j + 1 < q 0 4 → q 9 j ≠ 10) (hs : s = 0 ∨ s = 12) (hd : q 0 4 - 1 + 100 ≤ q 0 5 + q 0 1) : aW (aPop q s) := by
  refine ⟨aS_turn (aS_dep (aS_here hS (tO_lt hS)) (by simp [uq])), ?_, aZ_pop s hj⟩
  have t := tF_pop s hj
  have e4 : (aPop q s) 0 4 = q 0 4 - 1 := by simp [aPop, aTurn, uq]
  have e5 : (aPop q s) 0 5 = q 0 5 := by simp [aPop, aTurn, uq]
  have e1 : (aPop q s) 0 1 = q 0 1 := by simp [aPop, aTurn, uq]
  have e7 : (aPop q s) 0 7 = s := by simp [aPop, aTurn, uq]
  rw [e4, e5, e1, e7]
  unfold aZs
  omega
theorem aW_close {q : Nat → Nat → Nat} {s : Nat} (h : aW q) (ht : topF q ≠ 14) (h1 : topF q ≠ 10) (h7 : q 0 7 ≠ 4 ∧ q 0 7 ≠ 5) (hs : s = 0 ∨ s = 12) : aW (aClose q s) := by
  obtain ⟨hS, hZ, hj⟩ := h
  have hp := tF_pos ht
  have hd := aZs_d hZ hS.1.2.2.2.2.2.2 hS.1.2.2.1
  have ho := hS.1.2.2.2.2.2.2
  refine aW_pop (aS_open hS (by omega)) (by simpa [uq] using hj) hs ?_
  unfold aZs at hZ
  simp [uq]
  omega
theorem aW_sw {q : Nat → Nat → Nat} {k n : Nat} (h : aW q) (ht : topF q ≠ 10) (h7 : q 0 7 ≠ 4 ∧ q 0 7 ≠ 5) (hk : k ≤ 6) (hn : n = 4 ∨ n = 5) (hk10 : k ≠ 10) (h0 : (aSW q k n).1 = 0) : aW (aSW q k n).2 := by
  obtain ⟨hS, hZ, hj⟩ := h
  unfold aSW at h0 ⊢
  by_cases h : 64 ≤ q 0 0
  · rw [if_pos h] at h0
    cases h0
  · rw [if_neg h]
    have hh := hS.1.2.2.2.2.2.1
    have S1 : aS (aScope q k (q 0 6 + 1)) := aS_scope hS (by omega) hk (by omega)
    refine ⟨aS_turn (aS_push S1 (by omega) (by simp [aScope, uq])), ?_, ?_⟩
    · rw [tF_turn, tF_push]
      unfold aZs at hZ ⊢
      simp [aTurn, aPush, aScope, uq]
      omega
    · have := aZ_push (q := aScope q k (q 0 6 + 1)) k (q 0 0) (by simpa [aScope, uq] using hj) (by rw [tF_scope]; exact ht)
      simpa [aTurn, uq] using this
theorem aW_first {q : Nat → Nat → Nat} {i : Nat} (hS : aS q) (hj : ∀ j, j + 1 < q 0 4 → q 9 j ≠ 10) (hz : (topF q = 10 → q 0 8 ≤ q 0 2 ∧ q 0 3 < 6 ∧ q 0 4 + 100 ≤ q 0 5 + q 0 1 + 1) ∧ (topF q ≠ 10 → q 0 4 + 100 ≤ q 0 5 + q 0 1)) (h0 : (aFirst i q).1 = 0) : aW (aFirst i q).2 := by
  unfold aFirst at h0 ⊢
  by_cases h : 100 ≤ q 0 2
  · rw [if_pos h] at h0
    cases h0
  · rw [if_neg h]
    refine ⟨aS_turn (aS_ref hS (by omega) hS.1.2.2.2.2.2.1), ?_, ?_⟩
    · rw [tF_turn, tF_ref]
      unfold aZs
      simp [aTurn, aRef, uq]
      omega
    · simpa [aTurn, aRef, uq] using hj
theorem aW_declIn {q : Nat → Nat → Nat} {i s n : Nat} (hS : aS q) (hj : ∀ j, j + 1 < q 0 4 → q 9 j ≠ 10) (hs : s < q 0 0) (hn : n = 7 ∨ n = 9) (ht : topF q ≠ 10) (hd : q 0 4 + 100 ≤ q 0 5 + q 0 1 + 1) (h0 : (aDeclIn i q s n).1 = 0) : aW (aDeclIn i q s n).2 := by
  unfold aDeclIn at h0 ⊢
  by_cases h : 60 ≤ q 0 1
  · rw [if_pos h] at h0
    cases h0
  · rw [if_neg h]
    refine ⟨aS_turn (aS_decl hS (by omega) hs (by omega)), ?_, ?_⟩
    · rw [tF_turn, tF_decl]
      unfold aZs
      simp [aTurn, aDecl, uq]
      omega
    · simpa [aTurn, aDecl, uq] using hj
theorem aW_atom {q : Nat → Nat → Nat} {i k : Nat} (h : aW q) (ht : topF q ≠ 10) (h7 : q 0 7 ≠ 4 ∧ q 0 7 ≠ 5) (h0 : (aAtom i k q).1 = 0) : aW (aAtom i k q).2 := by
  have hZ := h.2.1
  have hS := h.1
  have hj := h.2.2
  have hh := hS.1.2.2.2.2.2.1
  unfold aZs at hZ
  unfold aAtom at h0 ⊢
  by_cases c1 : k = 40
  · rw [if_pos c1] at h0 ⊢
    refine aW_open (aS_push hS (by omega) hh) ?_ (aZ_push _ _ hj ht) h0
    rw [tF_push]
    unfold aZs
    simp [aPush, uq]
    omega
  rw [if_neg c1] at h0 ⊢
  by_cases c2 : k = 259
  · rw [if_pos c2] at h0 ⊢
    exact aW_sw h ht h7 (by omega) (by omega) (by omega) h0
  rw [if_neg c2] at h0 ⊢
  by_cases c3 : k = 260
  · rw [if_pos c3]
    refine ⟨aS_turn (aS_push hS (by omega) hh), ?_, ?_⟩
    · rw [tF_turn, tF_push]
      unfold aZs
      simp [aTurn, aPush, uq]
      omega
    · have := aZ_push (q := q) 3 (q 0 6) hj ht
      simpa [aTurn, uq] using this
  rw [if_neg c3] at h0 ⊢
  by_cases c4 : k = 261
  · rw [if_pos c4] at h0 ⊢
    exact aW_sw h ht h7 (by omega) (by omega) (by omega) h0
  rw [if_neg c4] at h0 ⊢
  by_cases c5 : k = 262
  · rw [if_pos c5] at h0 ⊢
    exact aW_sw h ht h7 (by omega) (by omega) (by omega) h0
  rw [if_neg c5] at h0 ⊢
  by_cases c6 : k = 264
  · rw [if_pos c6] at h0 ⊢
    exact aW_first hS hj (by omega) h0
  rw [if_neg c6] at h0 ⊢
  by_cases c7 : k = 265
  · rw [if_pos c7]
    refine aW_turn h ?_
    unfold aZs
    omega
  · rw [if_neg c7] at h0
    cases h0
theorem hasB_ne {f : Nat} (h : hasB f = true) : f = 3 ∨ f = 4 ∨ f = 5 := by
  unfold hasB at h
  simp at h
  omega
theorem aW_beh {q : Nat → Nat → Nat} {i k : Nat} (h : aW q) (h7 : q 0 7 = 11 ∨ q 0 7 = 12) (h0 : (aBeh i k q).1 = 0) : aW (aBeh i k q).2 := by
  have hZ := h.2.1
  have hS := h.1
  have hj := h.2.2
  have hh := hS.1.2.2.2.2.2.1
  unfold aZs at hZ
  unfold aBeh at h0 ⊢
  by_cases t : topF q = 10
  · rw [if_pos t] at h0 ⊢
    by_cases c : k = 59
    · rw [if_pos c]
      have hp := tF_pos (show topF q ≠ 14 by omega)
      refine aW_pop (aS_imp hS (by omega) (by omega)) (by simpa [aImp] using hj) (by omega) ?_
      simp [aImp]
      omega
    · rw [if_neg c] at h0; cases h0
  rw [if_neg t] at h0 ⊢
  by_cases c1 : k = 41
  · rw [if_pos c1] at h0 ⊢
    by_cases c : topF q = 12
    · rw [if_pos c]
      exact aW_close h (by omega) t (by omega) (by omega)
    · rw [if_neg c] at h0; cases h0
  rw [if_neg c1] at h0 ⊢
  by_cases c2 : k = 43
  · rw [if_pos c2]
    refine aW_turn h ?_
    unfold aZs
    omega
  rw [if_neg c2] at h0 ⊢
  by_cases c3 : k = 44
  · rw [if_pos c3] at h0 ⊢
    by_cases c : hasB (topF q) = true
    · rw [if_pos c]
      have c' := hasB_ne c
      have hp := tF_pos (show topF q ≠ 14 by omega)
      refine aW_turn h ?_
      unfold aZs
      omega
    · rw [if_neg c] at h0; cases h0
  rw [if_neg c3] at h0 ⊢
  by_cases c4 : k = 59
  · rw [if_pos c4] at h0 ⊢
    by_cases c : topF q = 11
    · rw [if_pos c]
      exact aW_pop hS hj (by omega) (by omega)
    · rw [if_neg c] at h0; cases h0
  rw [if_neg c4] at h0 ⊢
  by_cases c5 : k = 125
  · rw [if_pos c5] at h0 ⊢
    by_cases c : topF q = 2
    · rw [if_pos c]
      exact aW_close h (by omega) t (by omega) (by omega)
    · rw [if_neg c] at h0 ⊢
      by_cases c : topF q = 13
      · rw [if_pos c]
        exact aW_close h (by omega) t (by omega) (by omega)
      · rw [if_neg c] at h0; cases h0
  rw [if_neg c5] at h0 ⊢
  by_cases c6 : k = 263
  · rw [if_pos c6] at h0 ⊢
    by_cases c : hasB (topF q) = true
    · rw [if_pos c]
      have c' := hasB_ne c
      have hp := tF_pos (show topF q ≠ 14 by omega)
      have hp' : 0 < (uq q 0 6 (topI q)) 0 4 := by simpa [uq] using hp
      refine ⟨aS_turn (aS_top (aS_here hS (tI_lt hS)) (by omega) (by simpa [uq] using tI_lt hS)), ?_, ?_⟩
      · unfold aIn
        rw [tF_turn, tF_top _ _ hp']
        unfold aZs
        simp [aTurn, aTop, uq]
        omega
      · have := aZ_top (q := uq q 0 6 (topI q)) 13 (topI q) (by simpa [uq] using hj)
        unfold aIn
        simpa [aTurn, uq] using this
    · rw [if_neg c] at h0; cases h0
  rw [if_neg c6] at h0 ⊢
  exact aW_atom h t (by omega) h0
theorem aW_T {q : Nat → Nat → Nat} {i k : Nat} (h : aW q) (h0 : (aT i k q).1 = 0) : aW (aT i k q).2 := by
  have hZ := h.2.1
  have hS := h.1
  have hj := h.2.2
  have hh := hS.1.2.2.2.2.2.1
  have htI := tI_lt hS
  have htO := tO_lt hS
  unfold aZs at hZ
  unfold aT at h0 ⊢
  by_cases s0 : q 0 7 = 0
  · rw [if_pos s0] at h0 ⊢
    unfold aDec at h0 ⊢
    by_cases c1 : k = 125
    · rw [if_pos c1] at h0 ⊢
      by_cases c : topF q = 1
      · rw [if_pos c]
        exact aW_close h (by omega) (by omega) (by omega) (by omega)
      · rw [if_neg c] at h0; cases h0
    rw [if_neg c1] at h0 ⊢
    by_cases c2 : k = 256
    · rw [if_pos c2]
      refine aW_turn h ?_
      unfold aZs
      omega
    rw [if_neg c2] at h0 ⊢
    by_cases c3 : k = 257
    · rw [if_pos c3]
      refine aW_turn h ?_
      unfold aZs
      omega
    rw [if_neg c3] at h0 ⊢
    by_cases c4 : k = 258
    · rw [if_pos c4]
      refine aW_turn h ?_
      unfold aZs
      omega
    rw [if_neg c4] at h0 ⊢
    by_cases c5 : k = 266
    · rw [if_pos c5] at h0 ⊢
      by_cases c : q 0 4 = 0
      · rw [if_pos c]
        exact h
      · rw [if_neg c] at h0; cases h0
    · rw [if_neg c5] at h0; cases h0
  rw [if_neg s0] at h0 ⊢
  by_cases s7 : q 0 7 = 7
  · rw [if_pos s7] at h0 ⊢
    by_cases c : k = 61
    · rw [if_pos c]
      refine aW_turn h ?_
      unfold aZs
      omega
    · rw [if_neg c] at h0; cases h0
  rw [if_neg s7] at h0 ⊢
  by_cases s8 : q 0 7 = 8
  · rw [if_pos s8] at h0 ⊢
    by_cases c : k = 123
    · rw [if_pos c] at h0 ⊢
      refine aW_open hS ?_ hj h0
      unfold aZs
      omega
    · rw [if_neg c] at h0; cases h0
  rw [if_neg s8] at h0 ⊢
  by_cases s9 : q 0 7 = 9
  · rw [if_pos s9] at h0 ⊢
    by_cases c : k = 123
    · rw [if_pos c] at h0 ⊢
      refine aW_open hS ?_ hj h0
      unfold aZs
      omega
    · rw [if_neg c] at h0; cases h0
  rw [if_neg s9] at h0 ⊢
  by_cases s10 : q 0 7 = 10
  · rw [if_pos s10] at h0 ⊢
    exact aW_atom h (by omega) (by omega) h0
  rw [if_neg s10] at h0 ⊢
  by_cases s11 : q 0 7 = 11
  · rw [if_pos s11] at h0 ⊢
    by_cases c : k = 46
    · rw [if_pos c]
      refine aW_turn h ?_
      unfold aZs
      omega
    · rw [if_neg c] at h0 ⊢
      exact aW_beh h (by omega) h0
  rw [if_neg s11] at h0 ⊢
  by_cases s12 : q 0 7 = 12
  · rw [if_pos s12] at h0 ⊢
    exact aW_beh h (by omega) h0
  rw [if_neg s12] at h0 ⊢
  by_cases c : k = 264
  · rw [if_pos c] at h0 ⊢
    unfold aName at h0 ⊢
    by_cases s1 : q 0 7 = 1
    · rw [if_pos s1] at h0 ⊢
      unfold aMod at h0 ⊢
      by_cases c1 : 60 ≤ q 0 1
      · rw [if_pos c1] at h0; cases h0
      rw [if_neg c1] at h0 ⊢
      by_cases c2 : 64 ≤ q 0 0
      · rw [if_pos c2] at h0; cases h0
      rw [if_neg c2] at h0 ⊢
      have S1 : aS (aScope q 1 (q 0 6 + 1)) := aS_scope hS (by omega) (by omega) (by omega)
      have S2 : aS (aDecl (aScope q 1 (q 0 6 + 1)) (q 0 6) i (q 0 0 + 1)) := aS_decl S1 (by simp [aScope, uq]; omega) (by simp [aScope, uq]; omega) (by simp [aScope, uq])
      have S3 : aS (aPush (aDecl (aScope q 1 (q 0 6 + 1)) (q 0 6) i (q 0 0 + 1)) 1 (q 0 0)) := aS_push S2 (by omega) (by simp [aScope, aDecl, uq])
      refine ⟨aS_turn (aS_here S3 (by simp [aScope, aDecl, aPush, uq])), ?_, ?_⟩
      · rw [tF_turn, tF_u6, tF_push]
        unfold aZs
        simp [aTurn, aPush, aDecl, aScope, uq]
        omega
      · have := aZ_push (q := aDecl (aScope q 1 (q 0 6 + 1)) (q 0 6) i (q 0 0 + 1)) 1 (q 0 0) (by simpa [aDecl, aScope, uq] using hj) (by rw [tF_decl, tF_scope]; omega)
        simpa [aTurn, uq] using this
    rw [if_neg s1] at h0 ⊢
    by_cases s2 : q 0 7 = 2
    · rw [if_pos s2] at h0 ⊢
      unfold aImpN at h0 ⊢
      by_cases c1 : 6 ≤ q 0 3
      · rw [if_pos c1] at h0; cases h0
      rw [if_neg c1] at h0 ⊢
      refine aW_first (aS_long (aS_push hS (by omega) hh)) ?_ ?_ h0
      · have := aZ_push (q := q) 10 (q 0 6) hj (by omega)
        simpa [uq] using this
      · rw [tF_u8, tF_push]
        simp [aPush, uq]
        omega
    rw [if_neg s2] at h0 ⊢
    by_cases s3 : q 0 7 = 3
    · rw [if_pos s3] at h0 ⊢
      refine aW_declIn (aS_push hS (by omega) hh) (aZ_push _ _ hj (by omega)) (by simp [aPush, uq]; omega) (by omega) (by rw [tF_push]; omega) ?_ h0
      simp [aPush, uq]
      omega
    rw [if_neg s3] at h0 ⊢
    by_cases s4 : q 0 7 = 4
    · rw [if_pos s4] at h0 ⊢
      refine aW_declIn (aS_here hS htI) (by simpa [uq] using hj) (by simpa [uq] using htI) (by omega) (by rw [tF_u6]; omega) ?_ h0
      simp [uq]
      omega
    rw [if_neg s4] at h0 ⊢
    by_cases s5 : q 0 7 = 5
    · rw [if_pos s5] at h0 ⊢
      unfold aBind at h0 ⊢
      by_cases f3 : topF q = 3
      · rw [if_pos f3] at h0 ⊢
        by_cases c1 : 60 ≤ q 0 1
        · rw [if_pos c1] at h0; cases h0
        rw [if_neg c1] at h0 ⊢
        by_cases c2 : 64 ≤ q 0 0
        · rw [if_pos c2] at h0; cases h0
        rw [if_neg c2] at h0 ⊢
        have S1 : aS (aScope q 3 (topI q + 1)) := aS_scope hS (by omega) (by omega) (by omega)
        have S2 : aS (uq (aScope q 3 (topI q + 1)) 0 6 (topI q)) := aS_here S1 (by simp [aScope, uq]; omega)
        have S3 : aS (aTop (uq (aScope q 3 (topI q + 1)) 0 6 (topI q)) 3 (q 0 0)) := aS_top S2 (by omega) (by simp [aScope, uq])
        refine aW_declIn S3 (aZ_top _ _ (by simpa [aScope, uq] using hj)) (by simp [aTop, aScope, uq]) (by omega) ?_ ?_ h0
        · rw [tF_top]
          · omega
          · simp [aScope, uq]
            omega
        · simp [aTop, aScope, uq]
          omega
      rw [if_neg f3] at h0 ⊢
      by_cases f4 : topF q = 4
      · rw [if_pos f4] at h0 ⊢
        refine aW_declIn (aS_here hS htI) (by simpa [uq] using hj) (by simpa [uq] using htI) (by omega) (by rw [tF_u6]; omega) ?_ h0
        simp [uq]
        omega
      · rw [if_neg f4] at h0 ⊢
        refine aW_declIn (aS_here hS htO) (by simpa [uq] using hj) (by simpa [uq] using htI) (by omega) (by rw [tF_u6]; omega) ?_ h0
        simp [uq]
        omega
    rw [if_neg s5] at h0 ⊢
    unfold aNext at h0 ⊢
    by_cases c0 : q 0 2 = 0
    · rw [if_pos c0] at h0; cases h0
    rw [if_neg c0] at h0 ⊢
    by_cases c1 : 100 ≤ q 0 2
    · rw [if_pos c1] at h0; cases h0
    rw [if_neg c1] at h0 ⊢
    by_cases c2 : 64 ≤ q 0 0
    · rw [if_pos c2] at h0; cases h0
    rw [if_neg c2] at h0 ⊢
    have S1 : aS (aScope q 6 0) := aS_scope hS (by omega) (by omega) (by omega)
    have S2 : aS (uq (aScope q 6 0) 8 (q 0 2 - 1) (q 0 0 + 1)) := aS_impo S1 (by simp [aScope, uq])
    refine ⟨aS_turn (aS_ref S2 (by simp [aScope, uq]; omega) (by simp [aScope, uq])), ?_, ?_⟩
    · rw [tF_turn, tF_ref, tF_r8, tF_scope]
      unfold aZs
      simp [aTurn, aRef, aScope, uq]
      omega
    · simpa [aTurn, aRef, aScope, uq] using hj
  · rw [if_neg c] at h0; cases h0
