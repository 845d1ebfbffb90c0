/-! JUST ONE NAME ON THE TAPE -/
section ISN
variable {F t n : Nat} {m : gM} {b : Nat → Nat}
theorem in_lt : ∀ c, c < 256 → cIn (nI c) = (cLt (nI c) || cDg (nI c)) := by decide +kernel
theorem nme_iff (hb : ∀ i, i < n → b i < 256) : Nme b n ↔ (tK b n 0 = 264 ∧ tS b n 0 = 0 ∧ tL b n 0 = n) := by
  constructor
  · rintro ⟨h1, h2, h3, h4, h5⟩
    have b0 := hb 0 (by omega)
    have S : tS b n 0 = 0 := runP_is _ _ _ (Nat.le_refl _) (by omega) (fun j a1 a2 => by omega) (fun _ => (lt_bl _ b0 h3).1)
    have L : tL b n 0 = n := by
      unfold tL
      rw [S, if_pos (by omega), if_pos h3, runP_is (n - 0) 0 n (by omega) (by omega) (fun j _ a2 => (h4 j a2).2) (fun a => by omega)]
      omega
    refine ⟨?_, S, L⟩
    unfold tK
    rw [S, L, if_pos (by omega), if_pos h3, if_neg (by omega)]
    exact h5
  · rintro ⟨K, S, L⟩
    unfold tK at K
    rw [S, L] at K
    split at K
    · rename_i n0
      have b0 := hb 0 n0
      split at K
      · rename_i lt
        split at K
        · omega
        · refine ⟨by omega, by omega, lt, fun i hi => ⟨hb i hi, ?_⟩, K⟩
          unfold tL at L
          rw [S, if_pos n0, if_pos lt] at L
          exact runP_all cIn b (n - 0) 0 i (by omega) (by omega)
      · split at K
        · split at K <;> omega
        · split at K
          · omega
          · omega
    · omega
/-- the object's question -/
theorem s_areJust (h : TapC m t b n) (hF : 5000 ≤ F) : ∃ v m', f_X6_areJustOneName gSH F 56 t m = some (v, m') ∧ gKeep (fun k => k ≠ 56) m m' ∧ m'.2.2 = m.2.2 ∧ ((v = 1 ∧ Nme b n ∧ m'.2.1 56 3 = nmH b 0 n ∧ m'.2.1 56 4 = nmL b 0 n ∧ m'.1 56 2 = nI n) ∨ (v = 0 ∧ ¬ Nme b n)) := by
  have k0 : gKeep (fun k => k ≠ 56) m (gsI (gsI m 56 1 0) 56 2 0) := (gKeep.i (by simp)).trans (gKeep.i (by simp))
  obtain ⟨m', a1, ⟨a2, a3, a4, a5⟩, a6, a7⟩ := s_advance (F := F) (st := 0) (ln := 0) (h.keep k0) hF (by rw [gI_1, if_neg (by decide), gI_1, if_pos ⟨rfl, rfl⟩]; rfl) (by rw [gI_1, if_pos ⟨rfl, rfl⟩]; rfl) (by omega)
  have hb : ∀ i, i < n → b i < 256 := fun i hi => (h.2.2.2.2 i hi).1
  have n4 := h.2.2.2.1
  have iff := nme_iff hb
  have t1 := h.1
  have tap : m'.1 t 1 = nI n := by
    rw [(a6 t (by omega)).1, (k0 t (by omega)).1]
    exact h.2.2.1
  have tk := (tK_266 (p := 0) hb).2
  have ts := tS_le (b := b) (n := n) (p := 0) (by omega)
  have tl : tL b n 0 < 2 ^ 31 := by
    by_cases c : tS b n 0 < n
    · have := (tL_le c).2
      omega
    · unfold tL
      rw [if_neg c]
      decide
  have st : ∀ v : Int32, f_X6_areJustOneName gSH F 56 t m = (if nI (tK b n 0) = 264 then (if nI (tS b n 0) = 0 then (if nI (tL b n 0) = nI n then some (1, m') else some (0, m')) else some (0, m')) else some (0, m')) := fun _ => by
    unfold f_X6_areJustOneName f_X6_begin
    rw [ob_56, g_ift, g_ift, g_nmb, g_nmb, g_bs, a1, g_bs, a2, a3, a4, (ob_tape h.1).1, g_ift, tap]
  by_cases c1 : tK b n 0 = 264
  · by_cases c2 : tS b n 0 = 0
    · by_cases c3 : tL b n 0 = n
      · have N := iff.mpr ⟨c1, c2, c3⟩
        obtain ⟨a51, a52⟩ := a5 c1
        refine ⟨1, m', ?_, k0.trans a6, a7, Or.inl ⟨rfl, N, ?_, ?_, ?_⟩⟩
        · rw [st 0, c1, if_pos (show nI 264 = 264 from rfl), c2, if_pos (show nI 0 = 0 from rfl), c3, if_pos rfl]
        · rw [a51]
          show nmH b (tS b n 0) (tL b n 0) = _
          rw [c2, c3]
        · rw [a52]
          show nmL b (tS b n 0) (tL b n 0) = _
          rw [c2, c3]
        · rw [a4]
          show nI (tL b n 0) = _
          rw [c3]
      · refine ⟨0, m', ?_, k0.trans a6, a7, Or.inr ⟨rfl, fun N => c3 (iff.mp N).2.2⟩⟩
        rw [st 0, c1, if_pos (show nI 264 = 264 from rfl), c2, if_pos (show nI 0 = 0 from rfl), if_neg (fun e => c3 ((nI_eq (by omega) (by omega)).mp e))]
    · refine ⟨0, m', ?_, k0.trans a6, a7, Or.inr ⟨rfl, fun N => c2 (iff.mp N).2.1⟩⟩
      rw [st 0, c1, if_pos (show nI 264 = 264 from rfl), if_neg (show ¬ nI (tS b n 0) = 0 from fun e => c2 ((nI_eq (b := 0) (by omega) (by omega)).mp e))]
  · refine ⟨0, m', ?_, k0.trans a6, a7, Or.inr ⟨rfl, fun N => c1 (iff.mp N).1⟩⟩
    rw [st 0, if_neg (show ¬ nI (tK b n 0) = 264 from fun e => c1 ((nI_eq (b := 264) (by omega) (by omega)).mp e))]
theorem r_isNameL (hp : PTR m) (hw : WdR m) (hF : 5000 ≤ F) (h : TpR m b n) : ∀ (k N i : Nat), i + k = n → k + 1 < N → (∀ j, j < i → cIn (nI (b j)) = true) → ∃ v, l_X8_isName_36 gSH F N 62 1 (nI i) m = some (v, m) ∧ ((v = 1 ∧ (∀ j, j < n → cIn (nI (b j)) = true) ∧ wordK b 0 n = 264) ∨ (v = 0 ∧ ¬ ((∀ j, j < n → cIn (nI (b j)) = true) ∧ wordK b 0 n = 264))) := by
  obtain ⟨t1, t2, t3⟩ := h
  have p63 : m.2.2 62 1 = some 63 := hp.2.2.1.1
  intro k
  induction k with
  | zero =>
    intro N i hi hN hA
    obtain ⟨N, rfl⟩ : ∃ N', N = N' + 1 := ⟨N - 1, by omega⟩
    have hin : i = n := by omega
    subst hin
    have w := s_wordOf (F := F) (m := m) (b := b) (s := 0) (len := i) (x1 := 63) (RN := 4000) hw hF (fun x => rfl) (by decide) (by omega) (fun j hj => by rw [Nat.zero_add]; exact t3 j hj)
    have rng := wordK_rng b 0 i
    have e : l_X8_isName_36 gSH F (N + 1) 62 1 (nI i) m = (if nI (rT (wordK b 0 i)) = 1 then some (1, m) else some (0, m)) := by
      show b_X8_isName_36 gSH F (l_X8_isName_36 gSH F N) 62 1 (nI i) m = _
      unfold b_X8_isName_36 b_X8_isName_84
      rw [ob_62, g_ift, t1, if_pos (nI_le (Nat.le_refl _) (by omega)), if_neg one0, g_ift, p63, g_bs, show (0 : Int32) = nI 0 from rfl, w, g_bs, g_nmb, g_nmb]
    by_cases c : wordK b 0 i = 264
    · refine ⟨1, ?_, Or.inl ⟨rfl, hA, c⟩⟩
      rw [e, c, if_pos (by decide)]
    · refine ⟨0, ?_, Or.inr ⟨rfl, fun z => c z.2⟩⟩
      rw [e, if_neg (fun z => ?_)]
      have r : rT (wordK b 0 i) = wordK b 0 i - 246 := by
        unfold rT
        rw [if_neg (by omega), if_neg c, if_neg, if_neg (by omega)]
        intro x
        omega
      rw [r] at z
      have := (nI_eq (a := wordK b 0 i - 246) (b := 1) (by omega) (by omega)).mp z
      omega
  | succ k ih =>
    intro N i hi hN hA
    obtain ⟨N, rfl⟩ : ∃ N', N = N' + 1 := ⟨N - 1, by omega⟩
    have i63 : aB gSH 63 .int (nI i) = true := g_inI (N := 4000) (by omega) (by decide)
    have bi := t3 i (by omega)
    have e : l_X8_isName_36 gSH F (N + 1) 62 1 (nI i) m = (if cLt (nI (b i)) = true then l_X8_isName_36 gSH F N 62 1 (nI (i + 1)) m else if cDg (nI (b i)) = true then l_X8_isName_36 gSH F N 62 1 (nI (i + 1)) m else l_X8_isName_36 gSH F N 62 0 (nI (i + 1)) m) := by
      show b_X8_isName_36 gSH F (l_X8_isName_36 gSH F N) 62 1 (nI i) m = _
      unfold b_X8_isName_36 b_X8_isName_72 b_X8_isName_77
      rw [ob_62, g_ift, t1, if_neg (nI_ge (by omega) (by omega)), if_neg one0, p63, g_bs, i63, g_ift, nI_clamp (by omega), bi.2, s_isLetter, g_bs, g_nmb, g_nmb]
      dsimp only
      rw [p63, g_bs, i63, g_ift, bi.2, s_isDigit8, g_bs]
      simp only [g_nmb, nI_a1]
      cases x : cLt (nI (b i))
      · rw [if_pos (show b2 false = 0 by decide), if_neg (show ¬ (false = true) by decide)]
        cases y : cDg (nI (b i))
        · rw [if_pos (show b2 false = 0 by decide), if_neg (show ¬ (false = true) by decide)]
        · rw [if_neg (show ¬ b2 true = 0 by decide), if_pos (rfl : true = true)]
      · rw [if_neg (show ¬ b2 true = 0 by decide), if_pos (rfl : true = true)]
    have ii := in_lt (b i) bi.1
    by_cases c : cIn (nI (b i)) = true
    · have e' : l_X8_isName_36 gSH F (N + 1) 62 1 (nI i) m = l_X8_isName_36 gSH F N 62 1 (nI (i + 1)) m := by
        rw [e]
        rw [ii, Bool.or_eq_true] at c
        by_cases x : cLt (nI (b i)) = true
        · rw [if_pos x]
        · rw [if_neg x, if_pos (c.elim (fun z => absurd z x) id)]
      rw [e']
      exact ih N (i + 1) (by omega) (by omega) (fun j hj => by
        by_cases z : j = i
        · rw [z]; exact c
        · exact hA j (by omega))
    · refine ⟨0, ?_, Or.inr ⟨rfl, fun z => c (z.1 i (by omega))⟩⟩
      rw [ii, Bool.or_eq_true] at c
      rw [e, if_neg (fun z => c (Or.inl z)), if_neg (fun z => c (Or.inr z))]
      obtain ⟨N, rfl⟩ : ∃ N', N = N' + 1 := ⟨N - 1, by omega⟩
      show b_X8_isName_36 gSH F (l_X8_isName_36 gSH F N) 62 0 (nI (i + 1)) m = _
      unfold b_X8_isName_36 b_X8_isName_84
      rw [ob_62, g_ift, if_pos (rfl : (0 : Int32) = 0), if_pos (rfl : (0 : Int32) = 0), ite_self]
/-- the reference's question -/
theorem r_isName (hp : PTR m) (hw : WdR m) (hF : 5000 ≤ F) (h : TpR m b n) : ∃ v, f_X8_isName gSH F 62 m = some (v, m) ∧ ((v = 1 ∧ Nme b n) ∨ (v = 0 ∧ ¬ Nme b n)) := by
  obtain ⟨t1, t2, t3⟩ := id h
  have p63 : m.2.2 62 1 = some 63 := hp.2.2.1.1
  have no : b_X8_isName_32 gSH F 62 m = some (0, m) := by
    unfold b_X8_isName_32 b_X8_isName_33
    obtain ⟨N, hN⟩ : ∃ N', F = N' + 1 := ⟨F - 1, by omega⟩
    have e : l_X8_isName_36 gSH F F = l_X8_isName_36 gSH F (N + 1) := by rw [← hN]
    rw [e]
    show b_X8_isName_36 gSH F (l_X8_isName_36 gSH F N) 62 0 0 m = _
    unfold b_X8_isName_36 b_X8_isName_84
    rw [ob_62, g_ift, if_pos (rfl : (0 : Int32) = 0), if_pos (rfl : (0 : Int32) = 0), ite_self]
  by_cases c1 : n = 0
  · refine ⟨0, ?_, Or.inr ⟨rfl, fun z => by have := z.1; omega⟩⟩
    unfold f_X8_isName
    rw [ob_62, g_ift, t1, c1, if_pos (by decide), no]
  have g0 : ¬ nI n ≤ 0 := nI_ge (a := 0) (by omega) (by omega)
  by_cases c2 : 12 < n
  · refine ⟨0, ?_, Or.inr ⟨rfl, fun z => by have := z.2.1; omega⟩⟩
    unfold f_X8_isName
    rw [ob_62, g_ift, t1, if_neg g0, if_pos (show (12 : Int32) < nI n from nI_lt (a := 12) c2 (by omega)), no]
  have b0 := t3 0 (by omega)
  have st : f_X8_isName gSH F 62 m = (if cLt (nI (b 0)) = true then l_X8_isName_36 gSH F F 62 1 (nI 0) m else some (0, m)) := by
    unfold f_X8_isName b_X8_isName_33
    rw [ob_62, g_ift, t1, if_neg g0, if_neg (show ¬ (12 : Int32) < nI n from nI_nlt (a := 12) (by omega) (by decide)), p63, g_bs, show aB gSH 63 .int 0 = true from g_inI (N := 4000) (n := 0) (by decide) (by decide), g_ift, show (0 : Int32).toNatClampNeg = 0 from rfl, b0.2, s_isLetter, g_bs, g_nmb, g_nmb]
    dsimp only
    cases x : cLt (nI (b 0))
    · rw [if_pos (show b2 false = 0 by decide), if_neg (by decide), no]
    · rw [if_neg (show ¬ b2 true = 0 by decide), if_pos rfl]
      rfl
  by_cases c3 : cLt (nI (b 0)) = true
  · obtain ⟨v, a1, a2⟩ := r_isNameL hp hw hF h n F 0 (by omega) (by omega) (fun j hj => by omega)
    refine ⟨v, by rw [st, if_pos c3, a1], ?_⟩
    rcases a2 with ⟨v1, x1, x2⟩ | ⟨v0, x⟩
    · exact Or.inl ⟨v1, by omega, by omega, c3, fun i hi => ⟨(t3 i hi).1, x1 i hi⟩, x2⟩
    · exact Or.inr ⟨v0, fun z => x ⟨fun j hj => (z.2.2.2.1 j hj).2, z.2.2.2.2⟩⟩
  · exact ⟨0, by rw [st, if_neg c3], Or.inr ⟨rfl, fun z => c3 z.2.2.1⟩⟩
end ISN
