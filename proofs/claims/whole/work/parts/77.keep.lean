/-! THE REFERENCE KEEPS AND GIVES BACK ITS PROGRAM (written by a program: gen_keep.py) -/
def KPt (m : gM) : Prop := m.2.2 62 22 = some 76 ∧ m.2.2 62 23 = some 77 ∧ m.2.2 62 25 = some 78 ∧ m.2.2 62 26 = some 79 ∧ m.2.2 62 27 = some 80 ∧ m.2.2 62 28 = some 81 ∧ m.2.2 62 30 = some 82 ∧ m.2.2 62 31 = some 83 ∧ m.2.2 62 32 = some 84 ∧ m.2.2 62 33 = some 85
section KEEP
variable {F : Nat}
theorem kp_s {nn : Nat} (hn : nn < 65) : ∀ (k N i : Nat) (m : gM), i + k = nn → k < N → m.1 62 10 = nI nn → RPt m → KPt m → (∀ j, j < i → m.1 76 j = m.1 66 j ∧ m.1 77 j = m.1 67 j) → ∃ m1, l_X8_keep_2 gSH F N 62 (nI i) m = l_X8_keep_50 gSH F F 62 0 (gsI m1 62 24 (nI nn)) ∧ (∀ c, c ≠ 76 → c ≠ 77 → m1.1 c = m.1 c) ∧ m1.2 = m.2 ∧ ∀ j, j < nn → m1.1 76 j = m.1 66 j ∧ m1.1 77 j = m.1 67 j := by
  intro k
  induction k with
  | zero =>
    intro N i m hk hN hc p k hj
    obtain ⟨N, rfl⟩ : ∃ N', N = N' + 1 := ⟨N - 1, by omega⟩
    refine ⟨m, ?_, fun _ _ _ => rfl, rfl, fun j hj' => hj j (by omega)⟩
    show b_X8_keep_2 gSH F (l_X8_keep_2 gSH F N) 62 (nI i) m = _
    unfold b_X8_keep_2
    rw [ob_62, g_ift, hc, if_pos (nI_le (by omega) (by omega))]
    rfl
  | succ k ih =>
    intro N i m hk hN hc p k hj
    obtain ⟨N, rfl⟩ : ∃ N', N = N' + 1 := ⟨N - 1, by omega⟩
    have cl : (nI i).toNatClampNeg = i := nI_clamp (by omega)
    have a66 : aB gSH 66 .int (nI i) = true := g_inI (N := 65) (by omega) (by decide)
    have a67 : aB gSH 67 .int (nI i) = true := g_inI (N := 65) (by omega) (by decide)
    have a76 : aB gSH 76 .int (nI i) = true := g_inI (N := 65) (by omega) (by decide)
    have a77 : aB gSH 77 .int (nI i) = true := g_inI (N := 65) (by omega) (by decide)
    have q76 : m.2.2 62 22 = some 76 := k.1
    have q66 : m.2.2 62 8 = some 66 := p.1.1
    have q77 : m.2.2 62 23 = some 77 := k.2.1
    have q67 : m.2.2 62 9 = some 67 := p.1.2.1
    have e : l_X8_keep_2 gSH F (N + 1) 62 (nI i) m = l_X8_keep_2 gSH F N 62 (nI (i + 1)) (gsI (gsI m 76 i (m.1 66 i)) 77 i (m.1 67 i)) := by
      show b_X8_keep_2 gSH F (l_X8_keep_2 gSH F N) 62 (nI i) m = _
      unfold b_X8_keep_2
      rw [ob_62, g_ift, hc, if_neg (nI_ge (by omega) (by omega))]
      simp [g_ift, g_bs, g_nmb, gI_1, gI_2, cl, nI_a1, nI_1, a66, a67, a76, a77, q76, q66, q77, q67]
    rw [e]
    obtain ⟨m1, c1, c2, c3, c4⟩ := ih N (i + 1) (gsI (gsI m 76 i (m.1 66 i)) 77 i (m.1 67 i)) (by omega) (by omega) (by simpa [gI_1] using hc) p k (fun j hj' => by
      by_cases c : j = i
      · subst c
        simp [gI_1]
      · have := hj j (by omega)
        simpa [gI_1, c] using this)
    refine ⟨m1, c1, fun c h76 h77 => ?_, c3, fun j hj' => ?_⟩
    · rw [c2 c h76 h77]
      funext j
      simp [gI_1, h76, h77]
    · have := c4 j hj'
      simpa [gI_1] using this
theorem kp_d {nn : Nat} (hn : nn < 61) : ∀ (k N i : Nat) (m : gM), i + k = nn → k < N → m.1 62 15 = nI nn → RPt m → KPt m → (∀ j, j < i → m.1 78 j = m.1 68 j ∧ m.1 79 j = m.1 69 j ∧ m.1 80 j = m.1 70 j ∧ m.1 81 j = m.1 71 j) → ∃ m1, l_X8_keep_50 gSH F N 62 (nI i) m = l_X8_keep_122 gSH F F 62 0 (gsI m1 62 29 (nI nn)) ∧ (∀ c, c ≠ 78 → c ≠ 79 → c ≠ 80 → c ≠ 81 → m1.1 c = m.1 c) ∧ m1.2 = m.2 ∧ ∀ j, j < nn → m1.1 78 j = m.1 68 j ∧ m1.1 79 j = m.1 69 j ∧ m1.1 80 j = m.1 70 j ∧ m1.1 81 j = m.1 71 j := by
  intro k
  induction k with
  | zero =>
    intro N i m hk hN hc p k hj
    obtain ⟨N, rfl⟩ : ∃ N', N = N' + 1 := ⟨N - 1, by omega⟩
    refine ⟨m, ?_, fun _ _ _ _ _ => rfl, rfl, fun j hj' => hj j (by omega)⟩
    show b_X8_keep_50 gSH F (l_X8_keep_50 gSH F N) 62 (nI i) m = _
    unfold b_X8_keep_50
    rw [ob_62, g_ift, hc, if_pos (nI_le (by omega) (by omega))]
    rfl
  | succ k ih =>
    intro N i m hk hN hc p k hj
    obtain ⟨N, rfl⟩ : ∃ N', N = N' + 1 := ⟨N - 1, by omega⟩
    have cl : (nI i).toNatClampNeg = i := nI_clamp (by omega)
    have a68 : aB gSH 68 .int (nI i) = true := g_inI (N := 61) (by omega) (by decide)
    have a69 : aB gSH 69 .int (nI i) = true := g_inI (N := 61) (by omega) (by decide)
    have a70 : aB gSH 70 .int (nI i) = true := g_inI (N := 61) (by omega) (by decide)
    have a71 : aB gSH 71 .int (nI i) = true := g_inI (N := 61) (by omega) (by decide)
    have a78 : aB gSH 78 .int (nI i) = true := g_inI (N := 61) (by omega) (by decide)
    have a79 : aB gSH 79 .int (nI i) = true := g_inI (N := 61) (by omega) (by decide)
    have a80 : aB gSH 80 .int (nI i) = true := g_inI (N := 61) (by omega) (by decide)
    have a81 : aB gSH 81 .int (nI i) = true := g_inI (N := 61) (by omega) (by decide)
    have q78 : m.2.2 62 25 = some 78 := k.2.2.1
    have q68 : m.2.2 62 11 = some 68 := p.1.2.2.1
    have q79 : m.2.2 62 26 = some 79 := k.2.2.2.1
    have q69 : m.2.2 62 12 = some 69 := p.1.2.2.2.1
    have q80 : m.2.2 62 27 = some 80 := k.2.2.2.2.1
    have q70 : m.2.2 62 13 = some 70 := p.1.2.2.2.2.1
    have q81 : m.2.2 62 28 = some 81 := k.2.2.2.2.2.1
    have q71 : m.2.2 62 14 = some 71 := p.1.2.2.2.2.2.1
    have e : l_X8_keep_50 gSH F (N + 1) 62 (nI i) m = l_X8_keep_50 gSH F N 62 (nI (i + 1)) (gsI (gsI (gsI (gsI m 78 i (m.1 68 i)) 79 i (m.1 69 i)) 80 i (m.1 70 i)) 81 i (m.1 71 i)) := by
      show b_X8_keep_50 gSH F (l_X8_keep_50 gSH F N) 62 (nI i) m = _
      unfold b_X8_keep_50
      rw [ob_62, g_ift, hc, if_neg (nI_ge (by omega) (by omega))]
      simp [g_ift, g_bs, g_nmb, gI_1, gI_2, cl, nI_a1, nI_1, a68, a69, a70, a71, a78, a79, a80, a81, q78, q68, q79, q69, q80, q70, q81, q71]
    rw [e]
    obtain ⟨m1, c1, c2, c3, c4⟩ := ih N (i + 1) (gsI (gsI (gsI (gsI m 78 i (m.1 68 i)) 79 i (m.1 69 i)) 80 i (m.1 70 i)) 81 i (m.1 71 i)) (by omega) (by omega) (by simpa [gI_1] using hc) p k (fun j hj' => by
      by_cases c : j = i
      · subst c
        simp [gI_1]
      · have := hj j (by omega)
        simpa [gI_1, c] using this)
    refine ⟨m1, c1, fun c h78 h79 h80 h81 => ?_, c3, fun j hj' => ?_⟩
    · rw [c2 c h78 h79 h80 h81]
      funext j
      simp [gI_1, h78, h79, h80, h81]
    · have := c4 j hj'
      simpa [gI_1] using this
theorem kp_r {nn : Nat} (hn : nn < 101) : ∀ (k N i : Nat) (m : gM), i + k = nn → k < N → m.1 62 20 = nI nn → RPt m → KPt m → (∀ j, j < i → m.1 82 j = m.1 72 j ∧ m.1 83 j = m.1 73 j ∧ m.1 84 j = m.1 74 j ∧ m.1 85 j = m.1 75 j) → ∃ m1, l_X8_keep_122 gSH F N 62 (nI i) m = some (gsI m1 62 34 (nI nn)) ∧ (∀ c, c ≠ 82 → c ≠ 83 → c ≠ 84 → c ≠ 85 → m1.1 c = m.1 c) ∧ m1.2 = m.2 ∧ ∀ j, j < nn → m1.1 82 j = m.1 72 j ∧ m1.1 83 j = m.1 73 j ∧ m1.1 84 j = m.1 74 j ∧ m1.1 85 j = m.1 75 j := by
  intro k
  induction k with
  | zero =>
    intro N i m hk hN hc p k hj
    obtain ⟨N, rfl⟩ : ∃ N', N = N' + 1 := ⟨N - 1, by omega⟩
    refine ⟨m, ?_, fun _ _ _ _ _ => rfl, rfl, fun j hj' => hj j (by omega)⟩
    show b_X8_keep_122 gSH F (l_X8_keep_122 gSH F N) 62 (nI i) m = _
    unfold b_X8_keep_122
    rw [ob_62, g_ift, hc, if_pos (nI_le (by omega) (by omega))]
    rfl
  | succ k ih =>
    intro N i m hk hN hc p k hj
    obtain ⟨N, rfl⟩ : ∃ N', N = N' + 1 := ⟨N - 1, by omega⟩
    have cl : (nI i).toNatClampNeg = i := nI_clamp (by omega)
    have a72 : aB gSH 72 .int (nI i) = true := g_inI (N := 101) (by omega) (by decide)
    have a73 : aB gSH 73 .int (nI i) = true := g_inI (N := 101) (by omega) (by decide)
    have a74 : aB gSH 74 .int (nI i) = true := g_inI (N := 101) (by omega) (by decide)
    have a75 : aB gSH 75 .int (nI i) = true := g_inI (N := 101) (by omega) (by decide)
    have a82 : aB gSH 82 .int (nI i) = true := g_inI (N := 101) (by omega) (by decide)
    have a83 : aB gSH 83 .int (nI i) = true := g_inI (N := 101) (by omega) (by decide)
    have a84 : aB gSH 84 .int (nI i) = true := g_inI (N := 101) (by omega) (by decide)
    have a85 : aB gSH 85 .int (nI i) = true := g_inI (N := 101) (by omega) (by decide)
    have q82 : m.2.2 62 30 = some 82 := k.2.2.2.2.2.2.1
    have q72 : m.2.2 62 16 = some 72 := p.1.2.2.2.2.2.2.1
    have q83 : m.2.2 62 31 = some 83 := k.2.2.2.2.2.2.2.1
    have q73 : m.2.2 62 17 = some 73 := p.1.2.2.2.2.2.2.2.1
    have q84 : m.2.2 62 32 = some 84 := k.2.2.2.2.2.2.2.2.1
    have q74 : m.2.2 62 18 = some 74 := p.1.2.2.2.2.2.2.2.2.1
    have q85 : m.2.2 62 33 = some 85 := k.2.2.2.2.2.2.2.2.2
    have q75 : m.2.2 62 19 = some 75 := p.1.2.2.2.2.2.2.2.2.2
    have e : l_X8_keep_122 gSH F (N + 1) 62 (nI i) m = l_X8_keep_122 gSH F N 62 (nI (i + 1)) (gsI (gsI (gsI (gsI m 82 i (m.1 72 i)) 83 i (m.1 73 i)) 84 i (m.1 74 i)) 85 i (m.1 75 i)) := by
      show b_X8_keep_122 gSH F (l_X8_keep_122 gSH F N) 62 (nI i) m = _
      unfold b_X8_keep_122
      rw [ob_62, g_ift, hc, if_neg (nI_ge (by omega) (by omega))]
      simp [g_ift, g_bs, g_nmb, gI_1, gI_2, cl, nI_a1, nI_1, a72, a73, a74, a75, a82, a83, a84, a85, q82, q72, q83, q73, q84, q74, q85, q75]
    rw [e]
    obtain ⟨m1, c1, c2, c3, c4⟩ := ih N (i + 1) (gsI (gsI (gsI (gsI m 82 i (m.1 72 i)) 83 i (m.1 73 i)) 84 i (m.1 74 i)) 85 i (m.1 75 i)) (by omega) (by omega) (by simpa [gI_1] using hc) p k (fun j hj' => by
      by_cases c : j = i
      · subst c
        simp [gI_1]
      · have := hj j (by omega)
        simpa [gI_1, c] using this)
    refine ⟨m1, c1, fun c h82 h83 h84 h85 => ?_, c3, fun j hj' => ?_⟩
    · rw [c2 c h82 h83 h84 h85]
      funext j
      simp [gI_1, h82, h83, h84, h85]
    · have := c4 j hj'
      simpa [gI_1] using this
theorem gb_s {nn : Nat} (hn : nn < 65) : ∀ (k N i : Nat) (m : gM), i + k = nn → k < N → m.1 62 10 = nI nn → RPt m → KPt m → (∀ j, j < i → m.1 66 j = m.1 76 j ∧ m.1 67 j = m.1 77 j) → ∃ m1, l_X8_giveBack_10 gSH F N 62 (nI i) m = l_X8_giveBack_58 gSH F F 62 0 (gsI m1 62 15 (m1.1 62 29)) ∧ (∀ c, c ≠ 66 → c ≠ 67 → m1.1 c = m.1 c) ∧ m1.2 = m.2 ∧ ∀ j, j < nn → m1.1 66 j = m.1 76 j ∧ m1.1 67 j = m.1 77 j := by
  intro k
  induction k with
  | zero =>
    intro N i m hk hN hc p k hj
    obtain ⟨N, rfl⟩ : ∃ N', N = N' + 1 := ⟨N - 1, by omega⟩
    refine ⟨m, ?_, fun _ _ _ => rfl, rfl, fun j hj' => hj j (by omega)⟩
    show b_X8_giveBack_10 gSH F (l_X8_giveBack_10 gSH F N) 62 (nI i) m = _
    unfold b_X8_giveBack_10
    rw [ob_62, g_ift, hc, if_pos (nI_le (by omega) (by omega))]
    rfl
  | succ k ih =>
    intro N i m hk hN hc p k hj
    obtain ⟨N, rfl⟩ : ∃ N', N = N' + 1 := ⟨N - 1, by omega⟩
    have cl : (nI i).toNatClampNeg = i := nI_clamp (by omega)
    have a66 : aB gSH 66 .int (nI i) = true := g_inI (N := 65) (by omega) (by decide)
    have a67 : aB gSH 67 .int (nI i) = true := g_inI (N := 65) (by omega) (by decide)
    have a76 : aB gSH 76 .int (nI i) = true := g_inI (N := 65) (by omega) (by decide)
    have a77 : aB gSH 77 .int (nI i) = true := g_inI (N := 65) (by omega) (by decide)
    have q66 : m.2.2 62 8 = some 66 := p.1.1
    have q76 : m.2.2 62 22 = some 76 := k.1
    have q67 : m.2.2 62 9 = some 67 := p.1.2.1
    have q77 : m.2.2 62 23 = some 77 := k.2.1
    have e : l_X8_giveBack_10 gSH F (N + 1) 62 (nI i) m = l_X8_giveBack_10 gSH F N 62 (nI (i + 1)) (gsI (gsI m 66 i (m.1 76 i)) 67 i (m.1 77 i)) := by
      show b_X8_giveBack_10 gSH F (l_X8_giveBack_10 gSH F N) 62 (nI i) m = _
      unfold b_X8_giveBack_10
      rw [ob_62, g_ift, hc, if_neg (nI_ge (by omega) (by omega))]
      simp [g_ift, g_bs, g_nmb, gI_1, gI_2, cl, nI_a1, nI_1, a66, a67, a76, a77, q66, q76, q67, q77]
    rw [e]
    obtain ⟨m1, c1, c2, c3, c4⟩ := ih N (i + 1) (gsI (gsI m 66 i (m.1 76 i)) 67 i (m.1 77 i)) (by omega) (by omega) (by simpa [gI_1] using hc) p k (fun j hj' => by
      by_cases c : j = i
      · subst c
        simp [gI_1]
      · have := hj j (by omega)
        simpa [gI_1, c] using this)
    refine ⟨m1, c1, fun c h66 h67 => ?_, c3, fun j hj' => ?_⟩
    · rw [c2 c h66 h67]
      funext j
      simp [gI_1, h66, h67]
    · have := c4 j hj'
      simpa [gI_1] using this
theorem gb_d {nn : Nat} (hn : nn < 61) : ∀ (k N i : Nat) (m : gM), i + k = nn → k < N → m.1 62 15 = nI nn → RPt m → KPt m → (∀ j, j < i → m.1 68 j = m.1 78 j ∧ m.1 69 j = m.1 79 j ∧ m.1 70 j = m.1 80 j ∧ m.1 71 j = m.1 81 j) → ∃ m1, l_X8_giveBack_58 gSH F N 62 (nI i) m = l_X8_giveBack_130 gSH F F 62 0 (gsI m1 62 20 (m1.1 62 34)) ∧ (∀ c, c ≠ 68 → c ≠ 69 → c ≠ 70 → c ≠ 71 → m1.1 c = m.1 c) ∧ m1.2 = m.2 ∧ ∀ j, j < nn → m1.1 68 j = m.1 78 j ∧ m1.1 69 j = m.1 79 j ∧ m1.1 70 j = m.1 80 j ∧ m1.1 71 j = m.1 81 j := by
  intro k
  induction k with
  | zero =>
    intro N i m hk hN hc p k hj
    obtain ⟨N, rfl⟩ : ∃ N', N = N' + 1 := ⟨N - 1, by omega⟩
    refine ⟨m, ?_, fun _ _ _ _ _ => rfl, rfl, fun j hj' => hj j (by omega)⟩
    show b_X8_giveBack_58 gSH F (l_X8_giveBack_58 gSH F N) 62 (nI i) m = _
    unfold b_X8_giveBack_58
    rw [ob_62, g_ift, hc, if_pos (nI_le (by omega) (by omega))]
    rfl
  | succ k ih =>
    intro N i m hk hN hc p k hj
    obtain ⟨N, rfl⟩ : ∃ N', N = N' + 1 := ⟨N - 1, by omega⟩
    have cl : (nI i).toNatClampNeg = i := nI_clamp (by omega)
    have a68 : aB gSH 68 .int (nI i) = true := g_inI (N := 61) (by omega) (by decide)
    have a69 : aB gSH 69 .int (nI i) = true := g_inI (N := 61) (by omega) (by decide)
    have a70 : aB gSH 70 .int (nI i) = true := g_inI (N := 61) (by omega) (by decide)
    have a71 : aB gSH 71 .int (nI i) = true := g_inI (N := 61) (by omega) (by decide)
    have a78 : aB gSH 78 .int (nI i) = true := g_inI (N := 61) (by omega) (by decide)
    have a79 : aB gSH 79 .int (nI i) = true := g_inI (N := 61) (by omega) (by decide)
    have a80 : aB gSH 80 .int (nI i) = true := g_inI (N := 61) (by omega) (by decide)
    have a81 : aB gSH 81 .int (nI i) = true := g_inI (N := 61) (by omega) (by decide)
    have q68 : m.2.2 62 11 = some 68 := p.1.2.2.1
    have q78 : m.2.2 62 25 = some 78 := k.2.2.1
    have q69 : m.2.2 62 12 = some 69 := p.1.2.2.2.1
    have q79 : m.2.2 62 26 = some 79 := k.2.2.2.1
    have q70 : m.2.2 62 13 = some 70 := p.1.2.2.2.2.1
    have q80 : m.2.2 62 27 = some 80 := k.2.2.2.2.1
    have q71 : m.2.2 62 14 = some 71 := p.1.2.2.2.2.2.1
    have q81 : m.2.2 62 28 = some 81 := k.2.2.2.2.2.1
    have e : l_X8_giveBack_58 gSH F (N + 1) 62 (nI i) m = l_X8_giveBack_58 gSH F N 62 (nI (i + 1)) (gsI (gsI (gsI (gsI m 68 i (m.1 78 i)) 69 i (m.1 79 i)) 70 i (m.1 80 i)) 71 i (m.1 81 i)) := by
      show b_X8_giveBack_58 gSH F (l_X8_giveBack_58 gSH F N) 62 (nI i) m = _
      unfold b_X8_giveBack_58
      rw [ob_62, g_ift, hc, if_neg (nI_ge (by omega) (by omega))]
      simp [g_ift, g_bs, g_nmb, gI_1, gI_2, cl, nI_a1, nI_1, a68, a69, a70, a71, a78, a79, a80, a81, q68, q78, q69, q79, q70, q80, q71, q81]
    rw [e]
    obtain ⟨m1, c1, c2, c3, c4⟩ := ih N (i + 1) (gsI (gsI (gsI (gsI m 68 i (m.1 78 i)) 69 i (m.1 79 i)) 70 i (m.1 80 i)) 71 i (m.1 81 i)) (by omega) (by omega) (by simpa [gI_1] using hc) p k (fun j hj' => by
      by_cases c : j = i
      · subst c
        simp [gI_1]
      · have := hj j (by omega)
        simpa [gI_1, c] using this)
    refine ⟨m1, c1, fun c h68 h69 h70 h71 => ?_, c3, fun j hj' => ?_⟩
    · rw [c2 c h68 h69 h70 h71]
      funext j
      simp [gI_1, h68, h69, h70, h71]
    · have := c4 j hj'
      simpa [gI_1] using this
theorem gb_r {nn : Nat} (hn : nn < 101) : ∀ (k N i : Nat) (m : gM), i + k = nn → k < N → m.1 62 20 = nI nn → RPt m → KPt m → (∀ j, j < i → m.1 72 j = m.1 82 j ∧ m.1 73 j = m.1 83 j ∧ m.1 74 j = m.1 84 j ∧ m.1 75 j = m.1 85 j) → ∃ m1, l_X8_giveBack_130 gSH F N 62 (nI i) m = some m1 ∧ (∀ c, c ≠ 72 → c ≠ 73 → c ≠ 74 → c ≠ 75 → m1.1 c = m.1 c) ∧ m1.2 = m.2 ∧ ∀ j, j < nn → m1.1 72 j = m.1 82 j ∧ m1.1 73 j = m.1 83 j ∧ m1.1 74 j = m.1 84 j ∧ m1.1 75 j = m.1 85 j := by
  intro k
  induction k with
  | zero =>
    intro N i m hk hN hc p k hj
    obtain ⟨N, rfl⟩ : ∃ N', N = N' + 1 := ⟨N - 1, by omega⟩
    refine ⟨m, ?_, fun _ _ _ _ _ => rfl, rfl, fun j hj' => hj j (by omega)⟩
    show b_X8_giveBack_130 gSH F (l_X8_giveBack_130 gSH F N) 62 (nI i) m = _
    unfold b_X8_giveBack_130
    rw [ob_62, g_ift, hc, if_pos (nI_le (by omega) (by omega))]
  | succ k ih =>
    intro N i m hk hN hc p k hj
    obtain ⟨N, rfl⟩ : ∃ N', N = N' + 1 := ⟨N - 1, by omega⟩
    have cl : (nI i).toNatClampNeg = i := nI_clamp (by omega)
    have a72 : aB gSH 72 .int (nI i) = true := g_inI (N := 101) (by omega) (by decide)
    have a73 : aB gSH 73 .int (nI i) = true := g_inI (N := 101) (by omega) (by decide)
    have a74 : aB gSH 74 .int (nI i) = true := g_inI (N := 101) (by omega) (by decide)
    have a75 : aB gSH 75 .int (nI i) = true := g_inI (N := 101) (by omega) (by decide)
    have a82 : aB gSH 82 .int (nI i) = true := g_inI (N := 101) (by omega) (by decide)
    have a83 : aB gSH 83 .int (nI i) = true := g_inI (N := 101) (by omega) (by decide)
    have a84 : aB gSH 84 .int (nI i) = true := g_inI (N := 101) (by omega) (by decide)
    have a85 : aB gSH 85 .int (nI i) = true := g_inI (N := 101) (by omega) (by decide)
    have q72 : m.2.2 62 16 = some 72 := p.1.2.2.2.2.2.2.1
    have q82 : m.2.2 62 30 = some 82 := k.2.2.2.2.2.2.1
    have q73 : m.2.2 62 17 = some 73 := p.1.2.2.2.2.2.2.2.1
    have q83 : m.2.2 62 31 = some 83 := k.2.2.2.2.2.2.2.1
    have q74 : m.2.2 62 18 = some 74 := p.1.2.2.2.2.2.2.2.2.1
    have q84 : m.2.2 62 32 = some 84 := k.2.2.2.2.2.2.2.2.1
    have q75 : m.2.2 62 19 = some 75 := p.1.2.2.2.2.2.2.2.2.2
    have q85 : m.2.2 62 33 = some 85 := k.2.2.2.2.2.2.2.2.2
    have e : l_X8_giveBack_130 gSH F (N + 1) 62 (nI i) m = l_X8_giveBack_130 gSH F N 62 (nI (i + 1)) (gsI (gsI (gsI (gsI m 72 i (m.1 82 i)) 73 i (m.1 83 i)) 74 i (m.1 84 i)) 75 i (m.1 85 i)) := by
      show b_X8_giveBack_130 gSH F (l_X8_giveBack_130 gSH F N) 62 (nI i) m = _
      unfold b_X8_giveBack_130
      rw [ob_62, g_ift, hc, if_neg (nI_ge (by omega) (by omega))]
      simp [g_ift, g_bs, g_nmb, gI_1, gI_2, cl, nI_a1, nI_1, a72, a73, a74, a75, a82, a83, a84, a85, q72, q82, q73, q83, q74, q84, q75, q85]
    rw [e]
    obtain ⟨m1, c1, c2, c3, c4⟩ := ih N (i + 1) (gsI (gsI (gsI (gsI m 72 i (m.1 82 i)) 73 i (m.1 83 i)) 74 i (m.1 84 i)) 75 i (m.1 85 i)) (by omega) (by omega) (by simpa [gI_1] using hc) p k (fun j hj' => by
      by_cases c : j = i
      · subst c
        simp [gI_1]
      · have := hj j (by omega)
        simpa [gI_1, c] using this)
    refine ⟨m1, c1, fun c h72 h73 h74 h75 => ?_, c3, fun j hj' => ?_⟩
    · rw [c2 c h72 h73 h74 h75]
      funext j
      simp [gI_1, h72, h73, h74, h75]
    · have := c4 j hj'
      simpa [gI_1] using this
end KEEP
