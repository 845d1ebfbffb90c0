/-! RUNS over a class's tape -/
theorem nI_a1 (a : Nat) : nI a + Int32.ofInt 1 = nI (a + 1) := nI_1 a
theorem sAt_in {b : Nat → Nat} {n i : Nat} (h : i < n) : sAt b n i = nI (b i) := if_pos h
theorem sAt_out {b : Nat → Nat} {n i : Nat} (h : ¬ i < n) : sAt b n i = -1 := if_neg h
theorem s_blanks {m : gM} {t n F : Nat} {b : Nat → Nat} (h : TapC m t b n) : ∀ (k N i : Nat), i + k = n → k < N → l_X6_behindBlanks_2 gSH F N t (nI i) m = some (nI (runP cBl b k i), m) := by
  have hle := h.2.2.2.1
  obtain ⟨o1, -⟩ := ob_tape h.1
  intro k
  induction k with
  | zero =>
    intro N i hi hN
    obtain ⟨N, rfl⟩ : ∃ N', N = N' + 1 := ⟨N - 1, by omega⟩
    show b_X6_behindBlanks_2 gSH F (l_X6_behindBlanks_2 gSH F N) t (nI i) m = _
    unfold b_X6_behindBlanks_2 runP
    by_cases h4 : 4000 ≤ i
    · rw [if_pos (show (4000 : Int32) ≤ nI i from nI_le (a := 4000) h4 (by omega))]
    · rw [if_neg (show ¬ (4000 : Int32) ≤ nI i from nI_ge (b := 4000) (by omega) (by decide)), o1, g_ift, s_at h (by omega), g_bs, g_nmb, g_nmb, s_isBlank, g_bs, g_nmb, g_nmb, sAt_out (by omega)]
      rfl
  | succ k ih =>
    intro N i hi hN
    obtain ⟨N, rfl⟩ : ∃ N', N = N' + 1 := ⟨N - 1, by omega⟩
    show b_X6_behindBlanks_2 gSH F (l_X6_behindBlanks_2 gSH F N) t (nI i) m = _
    unfold b_X6_behindBlanks_2 runP
    rw [if_neg (show ¬ (4000 : Int32) ≤ nI i from nI_ge (b := 4000) (by omega) (by decide)), o1, g_ift, s_at h (by omega), g_bs, g_nmb, g_nmb, s_isBlank, g_bs, g_nmb, g_nmb, sAt_in (by omega)]
    cases hc : cBl (nI (b i))
    · rw [if_pos (b2_0.mpr rfl), if_neg (by decide)]
    · rw [if_neg (show ¬ b2 true = 0 by decide), if_pos rfl, g_nmb, nI_a1]
      exact ih N (i + 1) (by omega) (by omega)
theorem s_behindBlanks {m : gM} {t n F p : Nat} {b : Nat → Nat} (h : TapC m t b n) (hp : p ≤ n) (hF : 5000 ≤ F) : f_X6_behindBlanks gSH F t (nI p) m = some (nI (runP cBl b (n - p) p), m) := by
  have hle := h.2.2.2.1
  exact s_blanks h (n - p) F p (by omega) (by omega)
theorem ob_56 : oB gSH 56 6 = true := by decide +kernel
/-- numbers: the run of digits from st on, its length in place 2, its kind in place 0 -/
theorem s_digits {m : gM} {t n F st : Nat} {b : Nat → Nat} (h : TapC m t b n) (hs : m.1 56 1 = nI st) (hst : st ≤ n) : ∀ (k N i : Nat), st + i + k = n → k < N →
    l_X6_takeNumber_2 gSH F N 56 t (nI i) m = b_X6_takeNumber_31 gSH F 56 (nI (runP cDg b k (st + i) - st)) m := by
  have hle := h.2.2.2.1
  obtain ⟨o1, -⟩ := ob_tape h.1
  intro k
  induction k with
  | zero =>
    intro N i hi hN
    obtain ⟨N, rfl⟩ : ∃ N', N = N' + 1 := ⟨N - 1, by omega⟩
    show b_X6_takeNumber_2 gSH F (l_X6_takeNumber_2 gSH F N) 56 t (nI i) m = _
    unfold b_X6_takeNumber_2 runP
    have e0 : st + i - st = i := by omega
    by_cases h4 : 4000 ≤ i
    · rw [if_pos (show (4000 : Int32) ≤ nI i from nI_le (a := 4000) h4 (by omega)), e0]
    · rw [if_neg (show ¬ (4000 : Int32) ≤ nI i from nI_ge (b := 4000) (by omega) (by decide)), ob_56, o1, g_ift, g_ift, hs, nI_add, s_at h (by omega), g_bs, g_nmb, g_nmb, s_isDigit, g_bs, g_nmb, g_nmb, sAt_out (by omega), e0]
      rfl
  | succ k ih =>
    intro N i hi hN
    obtain ⟨N, rfl⟩ : ∃ N', N = N' + 1 := ⟨N - 1, by omega⟩
    show b_X6_takeNumber_2 gSH F (l_X6_takeNumber_2 gSH F N) 56 t (nI i) m = _
    unfold b_X6_takeNumber_2 runP
    rw [if_neg (show ¬ (4000 : Int32) ≤ nI i from nI_ge (b := 4000) (by omega) (by decide)), ob_56, o1, g_ift, g_ift, hs, nI_add, s_at h (by omega), g_bs, g_nmb, g_nmb, s_isDigit, g_bs, g_nmb, g_nmb, sAt_in (by omega)]
    cases hc : cDg (nI (b (st + i)))
    · rw [if_pos (b2_0.mpr rfl), if_neg (by decide)]
      rw [show st + i - st = i by omega]
    · rw [if_neg (show ¬ b2 true = 0 by decide), if_pos rfl, g_nmb, nI_a1]
      exact ih N (i + 1) (by omega) (by omega)
