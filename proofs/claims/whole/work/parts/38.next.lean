/-! THE REFERENCE'S NEXT -/
/-- only places J of cell 62 change -/
def K62 (J : List Nat) (m m' : gM) : Prop := (∀ k, k ≠ 62 → m'.1 k = m.1 k) ∧ (∀ j, j ∉ J → m'.1 62 j = m.1 62 j) ∧ m'.2 = m.2
def fT : List Nat := [7, 37, 38, 39, 40, 41, 42]
theorem K62.refl {J : List Nat} (m : gM) : K62 J m m := ⟨fun _ _ => rfl, fun _ _ => rfl, rfl⟩
theorem K62.trans {J : List Nat} {a b c : gM} (h : K62 J a b) (k : K62 J b c) : K62 J a c := ⟨fun i hi => (k.1 i hi).trans (h.1 i hi), fun j hj => (k.2.1 j hj).trans (h.2.1 j hj), k.2.2.trans h.2.2⟩
theorem K62.s {J : List Nat} {m m' : gM} {j : Nat} {v : Int32} (h : K62 J m m') (hj : j ∈ J) : K62 J m (gsI m' 62 j v) := ⟨fun k hk => by
    rw [gsI_ne hk]
    exact h.1 k hk, fun i hi => by
    rw [gI_1, if_neg (show ¬ (62 = 62 ∧ i = j) from fun e => hi (e.2 ▸ hj))]
    exact h.2.1 i hi, h.2.2⟩
theorem MadeR.k {m m' : gM} {b : Nat → Nat} {n : Nat} (h : MadeR m b n) (k : K62 fT m m') : MadeR m' b n := by
  obtain ⟨hr, hs, hle, hb⟩ := h
  refine ⟨by rw [k.2.2]; exact hr, by rw [k.2.1 6 (by decide)]; exact hs, hle, fun i hi => ⟨(hb i hi).1, ?_⟩⟩
  rw [k.1 65 (by decide)]
  exact (hb i hi).2
theorem WdR.k {J : List Nat} {m m' : gM} (h : WdR m) (k : K62 J m m') : WdR m' := by
  obtain ⟨w1, w2, w3, w4⟩ := h
  refine ⟨by rw [k.2.2]; exact w1, by rw [k.2.2]; exact w2, fun w hw => ?_, fun w hw i hi => ?_⟩
  · rw [k.1 87 (by decide)]; exact w3 w hw
  · rw [k.1 86 (by decide)]; exact w4 w hw i hi
theorem s_blame {m : gM} {F : Nat} {k w : Int32} (h : m.1 62 7 = 0) : f_X8_blame gSH F 62 k w m = some (0, gsI (gsI m 62 7 k) 62 42 w) := by
  unfold f_X8_blame
  rw [ob_62, g_ift, h, if_pos rfl, g_nmb, g_nmb]
/-- what next() leaves for a name or word, for a number -/
def NxN (m m' : gM) (r : Int32) (b : Nat → Nat) (s e : Nat) : Prop := K62 fT m m' ∧ m'.1 62 40 = nI s ∧ m'.1 62 37 = nI e ∧ (12 < e - s → r = 0 ∧ m'.1 62 7 = 1 ∧ m'.1 62 42 = nI s) ∧ (¬ 12 < e - s → r = 1 ∧ m'.1 62 7 = 0 ∧ m'.1 62 38 = nI (rT (wordK b s (e - s))) ∧ m'.1 62 41 = nI (e - s))
def NxD (m m' : gM) (r : Int32) (s e : Nat) : Prop := K62 fT m m' ∧ m'.1 62 40 = nI s ∧ m'.1 62 37 = nI e ∧ (9 < e - s → r = 0 ∧ m'.1 62 7 = 1 ∧ m'.1 62 42 = nI s) ∧ (¬ 9 < e - s → r = 1 ∧ m'.1 62 7 = 0 ∧ m'.1 62 38 = 2)
theorem s_nextX {m : gM} {F n s e : Nat} {b : Nat → Nat} {k100 : Nat → gM → Option (Int32 × gM)} (h : MadeR m b n) (hW : WdR m) (hF : 5000 ≤ F) (h37 : m.1 62 37 = nI e) (h40 : m.1 62 40 = nI s) (h7 : m.1 62 7 = 0) (hse : s ≤ e) (hen : e ≤ n) (hc : cIn (sAt b n e) = false) :
    ∃ r m', b_X8_next_100 gSH F k100 62 m = some (r, m') ∧ NxN m m' r b s e := by
  have hle := h.2.2.1
  have hbb := h.2.2.2
  unfold cIn at hc
  rw [Bool.or_eq_false_iff] at hc
  unfold b_X8_next_100
  rw [ob_62, g_ift, h37, s_byteAt h (by omega), g_bs, g_nmb, g_nmb, s_isLetter, g_bs, g_nmb, g_nmb, hc.1, if_pos (show b2 false = 0 by decide), h37, s_byteAt h (by omega), g_bs, g_nmb, g_nmb, s_isDigit8, g_bs, g_nmb, g_nmb, hc.2, if_pos (show b2 false = 0 by decide), g_nmb, h37, h40, pk_sub hse]
  generalize em1 : gsI m 62 41 (nI (e - s)) = m1
  have k1 : K62 fT m m1 := by rw [← em1]; exact (K62.refl m).s (by decide)
  have g40 : m1.1 62 40 = nI s := by rw [← em1, gI_1, if_neg (by decide)]; exact h40
  have g37 : m1.1 62 37 = nI e := by rw [← em1, gI_1, if_neg (by decide)]; exact h37
  have g7 : m1.1 62 7 = 0 := by rw [← em1, gI_1, if_neg (by decide)]; exact h7
  have g41 : m1.1 62 41 = nI (e - s) := by rw [← em1, gI_1, if_pos ⟨rfl, rfl⟩]
  have M1 := h.k k1
  show ∃ r m', (m1.2.2 62 5).bind _ = some (r, m') ∧ _
  rw [M1.1, g_bs, g40, g41, s_wordOf (b := b) (RN := 4800) (hW.k k1) hF (fun x => rfl) (by decide) (by omega) (fun i hi => M1.2.2.2 (s + i) (by omega)), g_bs, g_nmb, g_nmb, g_nmb]
  generalize em2 : gsI m1 62 38 (nI (rT (wordK b s (e - s)))) = m2
  have k2 : K62 fT m m2 := by rw [← em2]; exact k1.s (by decide)
  have q40 : m2.1 62 40 = nI s := by rw [← em2, gI_1, if_neg (by decide)]; exact g40
  have q37 : m2.1 62 37 = nI e := by rw [← em2, gI_1, if_neg (by decide)]; exact g37
  have q7 : m2.1 62 7 = 0 := by rw [← em2, gI_1, if_neg (by decide)]; exact g7
  have q41 : m2.1 62 41 = nI (e - s) := by rw [← em2, gI_1, if_neg (by decide)]; exact g41
  have q38 : m2.1 62 38 = nI (rT (wordK b s (e - s))) := by rw [← em2, gI_1, if_pos ⟨rfl, rfl⟩]
  show ∃ r m', (if m2.1 62 41 ≤ 12 then _ else _) = some (r, m') ∧ _
  rw [q41]
  by_cases h12 : 12 < e - s
  · rw [if_neg (show ¬ nI (e - s) ≤ 12 from nI_ge (a := 12) h12 (by omega)), s_blame q7, g_bs, g_nmb, g_nmb, if_pos rfl, q40]
    refine ⟨0, _, rfl, (k2.s (by decide)).s (by decide), ?_, ?_, fun _ => ⟨rfl, ?_, ?_⟩, fun h => absurd h12 h⟩
    · rw [gI_1, if_neg (by decide), gI_1, if_neg (by decide)]; exact q40
    · rw [gI_1, if_neg (by decide), gI_1, if_neg (by decide)]; exact q37
    · rw [gI_1, if_neg (by decide), gI_1, if_pos ⟨rfl, rfl⟩]
    · rw [gI_1, if_pos ⟨rfl, rfl⟩]
  · rw [if_pos (show nI (e - s) ≤ 12 from nI_le (b := 12) (by omega) (by decide))]
    exact ⟨1, m2, rfl, k2, q40, q37, fun h => absurd h h12, fun _ => ⟨rfl, q7, q38, q41⟩⟩
theorem s_nextN {n F s : Nat} {b : Nat → Nat} (hF : 5000 ≤ F) : ∀ (k N i : Nat) (m : gM), MadeR m b n → WdR m → m.1 62 37 = nI i → m.1 62 40 = nI s → m.1 62 7 = 0 → i + k = n → s ≤ i → k < N →
    ∃ r m', l_X8_next_100 gSH F N 62 m = some (r, m') ∧ NxN m m' r b s (runP cIn b k i) := by
  intro k
  induction k with
  | zero =>
    intro N i m h hW h37 h40 h7 hi hs hN
    obtain ⟨N, rfl⟩ : ∃ N', N = N' + 1 := ⟨N - 1, by omega⟩
    exact s_nextX (e := i) (k100 := l_X8_next_100 gSH F N) h hW hF h37 h40 h7 hs (by omega) (by rw [sAt_out (by omega)]; exact cIn_m1)
  | succ k ih =>
    intro N i m h hW h37 h40 h7 hi hs hN
    have hle := h.2.2.1
    obtain ⟨N, rfl⟩ : ∃ N', N = N' + 1 := ⟨N - 1, by omega⟩
    by_cases hc : cIn (nI (b i)) = true
    · have er : runP cIn b (k + 1) i = runP cIn b k (i + 1) := by
        show (if cIn (nI (b i)) = true then runP cIn b k (i + 1) else i) = _
        rw [if_pos hc]
      rw [er]
      have k1 : K62 fT m (gsI m 62 37 (nI (i + 1))) := (K62.refl m).s (by decide)
      obtain ⟨r, m', h1, h2, h3⟩ := ih N (i + 1) (gsI m 62 37 (nI (i + 1))) (h.k k1) (hW.k k1) (by rw [gI_1, if_pos ⟨rfl, rfl⟩]) (by rw [gI_1, if_neg (by decide)]; exact h40) (by rw [gI_1, if_neg (by decide)]; exact h7) (by omega) (by omega) (by omega)
      refine ⟨r, m', ?_, k1.trans h2, h3⟩
      rw [← h1]
      have e128 : b_X8_next_128 gSH F (l_X8_next_100 gSH F N) 62 m = l_X8_next_100 gSH F N 62 (gsI m 62 37 (nI (i + 1))) := by
        unfold b_X8_next_128
        rw [ob_62, g_ift, g_nmb, h37, nI_1]
      show b_X8_next_100 gSH F (l_X8_next_100 gSH F N) 62 m = _
      unfold b_X8_next_100
      rw [ob_62, g_ift, h37, s_byteAt h (by omega), g_bs, g_nmb, g_nmb, s_isLetter, g_bs, g_nmb, g_nmb, sAt_in (by omega)]
      cases hl : cLt (nI (b i))
      · have hd : cDg (nI (b i)) = true := by
          unfold cIn at hc
          rw [hl, Bool.false_or] at hc
          exact hc
        rw [if_pos (show b2 false = 0 by decide), h37, s_byteAt h (by omega), g_bs, g_nmb, g_nmb, s_isDigit8, g_bs, g_nmb, g_nmb, sAt_in (by omega), hd, if_neg (show ¬ b2 true = 0 by decide)]
        exact e128
      · rw [if_neg (show ¬ b2 true = 0 by decide)]
        exact e128
    · have er : runP cIn b (k + 1) i = i := by
        show (if cIn (nI (b i)) = true then runP cIn b k (i + 1) else i) = _
        rw [if_neg hc]
      rw [er]
      exact s_nextX (k100 := l_X8_next_100 gSH F N) h hW hF h37 h40 h7 hs (by omega) (by rw [sAt_in (by omega)]; exact Bool.eq_false_iff.mpr hc)
theorem s_nextY {m : gM} {F n s e : Nat} {b : Nat → Nat} {k208 : Nat → gM → Option (Int32 × gM)} (h : MadeR m b n) (h37 : m.1 62 37 = nI e) (h40 : m.1 62 40 = nI s) (h7 : m.1 62 7 = 0) (hse : s ≤ e) (hen : e ≤ n) (hc : cDg (sAt b n e) = false) :
    ∃ r m', b_X8_next_208 gSH F k208 62 m = some (r, m') ∧ NxD m m' r s e := by
  have hle := h.2.2.1
  unfold b_X8_next_208
  rw [ob_62, g_ift, h37, s_byteAt h (by omega), g_bs, g_nmb, g_nmb, s_isDigit8, g_bs, g_nmb, g_nmb, hc, if_pos (show b2 false = 0 by decide), g_nmb]
  generalize em2 : gsI (b2 false, (sAt b n e, m).2).2 62 38 2 = m2
  have k2 : K62 fT m m2 := by rw [← em2]; exact (K62.refl m).s (by decide)
  have q40 : m2.1 62 40 = nI s := by rw [← em2, gI_1, if_neg (by decide)]; exact h40
  have q37 : m2.1 62 37 = nI e := by rw [← em2, gI_1, if_neg (by decide)]; exact h37
  have q7 : m2.1 62 7 = 0 := by rw [← em2, gI_1, if_neg (by decide)]; exact h7
  have q38 : m2.1 62 38 = 2 := by rw [← em2, gI_1, if_pos ⟨rfl, rfl⟩]
  rw [q37, q40, pk_sub hse]
  by_cases h9 : 9 < e - s
  · rw [if_neg (show ¬ nI (e - s) ≤ 9 from nI_ge (a := 9) h9 (by omega)), s_blame q7, g_bs, g_nmb, g_nmb, if_pos rfl]
    refine ⟨0, _, rfl, (k2.s (by decide)).s (by decide), ?_, ?_, fun _ => ⟨rfl, ?_, ?_⟩, fun h => absurd h9 h⟩
    · rw [gI_1, if_neg (by decide), gI_1, if_neg (by decide)]; exact q40
    · rw [gI_1, if_neg (by decide), gI_1, if_neg (by decide)]; exact q37
    · rw [gI_1, if_neg (by decide), gI_1, if_pos ⟨rfl, rfl⟩]
    · rw [gI_1, if_pos ⟨rfl, rfl⟩]
  · rw [if_pos (show nI (e - s) ≤ 9 from nI_le (b := 9) (by omega) (by decide))]
    exact ⟨1, m2, rfl, k2, q40, q37, fun h => absurd h h9, fun _ => ⟨rfl, q7, q38⟩⟩
theorem s_nextD {n F s : Nat} {b : Nat → Nat} : ∀ (k N i : Nat) (m : gM), MadeR m b n → m.1 62 37 = nI i → m.1 62 40 = nI s → m.1 62 7 = 0 → i + k = n → s ≤ i → k < N →
    ∃ r m', l_X8_next_208 gSH F N 62 m = some (r, m') ∧ NxD m m' r s (runP cDg b k i) := by
  intro k
  induction k with
  | zero =>
    intro N i m h h37 h40 h7 hi hs hN
    obtain ⟨N, rfl⟩ : ∃ N', N = N' + 1 := ⟨N - 1, by omega⟩
    exact s_nextY (e := i) (k208 := l_X8_next_208 gSH F N) h h37 h40 h7 hs (by omega) (by rw [sAt_out (by omega)]; exact cDg_m1)
  | succ k ih =>
    intro N i m h h37 h40 h7 hi hs hN
    have hle := h.2.2.1
    obtain ⟨N, rfl⟩ : ∃ N', N = N' + 1 := ⟨N - 1, by omega⟩
    by_cases hc : cDg (nI (b i)) = true
    · have er : runP cDg b (k + 1) i = runP cDg b k (i + 1) := by
        show (if cDg (nI (b i)) = true then runP cDg b k (i + 1) else i) = _
        rw [if_pos hc]
      rw [er]
      have k1 : K62 fT m (gsI m 62 37 (nI (i + 1))) := (K62.refl m).s (by decide)
      obtain ⟨r, m', h1, h2, h3⟩ := ih N (i + 1) (gsI m 62 37 (nI (i + 1))) (h.k k1) (by rw [gI_1, if_pos ⟨rfl, rfl⟩]) (by rw [gI_1, if_neg (by decide)]; exact h40) (by rw [gI_1, if_neg (by decide)]; exact h7) (by omega) (by omega) (by omega)
      refine ⟨r, m', ?_, k1.trans h2, h3⟩
      rw [← h1]
      show b_X8_next_208 gSH F (l_X8_next_208 gSH F N) 62 m = _
      unfold b_X8_next_208
      rw [ob_62, g_ift, h37, s_byteAt h (by omega), g_bs, g_nmb, g_nmb, s_isDigit8, g_bs, g_nmb, g_nmb, sAt_in (by omega), hc, if_neg (show ¬ b2 true = 0 by decide), g_nmb, h37, nI_1]
    · have er : runP cDg b (k + 1) i = i := by
        show (if cDg (nI (b i)) = true then runP cDg b k (i + 1) else i) = _
        rw [if_neg hc]
      rw [er]
      exact s_nextY (k208 := l_X8_next_208 gSH F N) h h37 h40 h7 hs (by omega) (by rw [sAt_in (by omega)]; exact Bool.eq_false_iff.mpr hc)
/-- what next() leaves -/
def Nx (m m' : gM) (r : Int32) (b : Nat → Nat) (n p : Nat) : Prop := K62 fT m m' ∧ m'.1 62 40 = nI (tS b n p) ∧ (tK b n p = 267 → r = 0 ∧ m'.1 62 7 = 1 ∧ m'.1 62 42 = nI (tS b n p)) ∧
  (tK b n p ≠ 267 → r = 1 ∧ m'.1 62 7 = 0 ∧ m'.1 62 38 = nI (rT (tK b n p)) ∧ (tK b n p < 256 → m'.1 62 39 = nI (tK b n p)) ∧ (tK b n p ≠ 266 → m'.1 62 37 = nI (tS b n p + tL b n p)) ∧ (256 ≤ tK b n p → tK b n p ≤ 264 → m'.1 62 41 = nI (tL b n p)))
theorem sgn_iff (c : Nat) : sgn c = true ↔ c = 123 ∨ c = 125 ∨ c = 40 ∨ c = 41 ∨ c = 61 ∨ c = 43 ∨ c = 46 ∨ c = 44 ∨ c = 59 := by
  unfold sgn
  rw [List.contains_iff_mem]
  simp
/-- behind the blanks -/
theorem s_nextB {m : gM} {F n p : Nat} {b : Nat → Nat} {k0 : Nat → gM → Option (Int32 × gM)} (h : MadeR m b n) (hW : WdR m) (hF : 5000 ≤ F) (hp : p ≤ n) (h37 : m.1 62 37 = nI (tS b n p)) (h7 : m.1 62 7 = 0) :
    ∃ r m', b_X8_next_0 gSH F k0 62 m = some (r, m') ∧ Nx m m' r b n p := by
  have hle := h.2.2.1
  have hbb := h.2.2.2
  have hs := tS_le (b := b) hp
  have nb : cBl (sAt b n (tS b n p)) = false := by
    by_cases hn : tS b n p < n
    · rw [sAt_in hn]
      exact runP_end cBl b (n - p) p (show tS b n p < _ by omega)
    · rw [sAt_out hn]
      decide
  unfold cBl at nb
  simp only [Bool.or_eq_false_iff, decide_eq_false_iff_not] at nb
  obtain ⟨⟨⟨n1, n2⟩, n3⟩, n4⟩ := nb
  unfold b_X8_next_0
  rw [ob_62, g_ift, h37, s_byteAt h (by omega), g_bs, g_nmb, g_nmb, if_neg n1, h37, s_byteAt h (by omega), g_bs, g_nmb, g_nmb, if_neg n2, h37, s_byteAt h (by omega), g_bs, g_nmb, g_nmb, if_neg n3, h37, s_byteAt h (by omega), g_bs, g_nmb, g_nmb, if_neg n4, g_nmb, h37]
  generalize em1 : gsI (sAt b n (tS b n p), m).2 62 40 (nI (tS b n p)) = m1
  have k1 : K62 fT m m1 := by rw [← em1]; exact (K62.refl m).s (by decide)
  have a37 : m1.1 62 37 = nI (tS b n p) := by rw [← em1, gI_1, if_neg (by decide)]; exact h37
  have a40 : m1.1 62 40 = nI (tS b n p) := by rw [← em1, gI_1, if_pos ⟨rfl, rfl⟩]
  have a7 : m1.1 62 7 = 0 := by rw [← em1, gI_1, if_neg (by decide)]; exact h7
  rw [a37, s_byteAt (h.k k1) (by omega), g_bs, g_nmb, g_nmb, g_nmb]
  generalize em2 : gsI (sAt b n (tS b n p), m1).2 62 38 0 = m2
  have k2 : K62 fT m m2 := by rw [← em2]; exact k1.s (by decide)
  have c37 : m2.1 62 37 = nI (tS b n p) := by rw [← em2, gI_1, if_neg (by decide)]; exact a37
  have c40 : m2.1 62 40 = nI (tS b n p) := by rw [← em2, gI_1, if_neg (by decide)]; exact a40
  have c7 : m2.1 62 7 = 0 := by rw [← em2, gI_1, if_neg (by decide)]; exact a7
  have c38 : m2.1 62 38 = 0 := by rw [← em2, gI_1, if_pos ⟨rfl, rfl⟩]
  show ∃ r m', (if 0 ≤ sAt b n (tS b n p) then _ else _) = some (r, m') ∧ _
  by_cases hn : tS b n p < n
  · obtain ⟨hbc, -⟩ := hbb _ hn
    rw [sAt_in hn, if_pos (nI_pos' (by omega)), s_isLetter, g_bs, g_nmb, g_nmb]
    cases hl : cLt (nI (b (tS b n p)))
    · rw [if_pos (show b2 false = 0 by decide), s_isDigit8, g_bs, g_nmb, g_nmb]
      cases hd : cDg (nI (b (tS b n p)))
      · rw [if_pos (show b2 false = 0 by decide), g_nmb, g_nmb, g_nmb]
        generalize em3 : gsI (b2 false, (b2 false, m2).2).2 62 38 3 = m3
        generalize em4 : gsI m3 62 39 (nI (b (tS b n p))) = m4
        have a4 : m4.1 62 37 = nI (tS b n p) := by rw [← em4, gI_1, if_neg (by decide), ← em3, gI_1, if_neg (by decide)]; exact c37
        rw [a4, nI_1]
        generalize em5 : gsI m4 62 37 (nI (tS b n p + 1)) = m5
        have k5 : K62 fT m m5 := by rw [← em5, ← em4, ← em3]; exact ((k2.s (by decide)).s (by decide)).s (by decide)
        have d40 : m5.1 62 40 = nI (tS b n p) := by rw [← em5, gI_1, if_neg (by decide), ← em4, gI_1, if_neg (by decide), ← em3, gI_1, if_neg (by decide)]; exact c40
        have d7 : m5.1 62 7 = 0 := by rw [← em5, gI_1, if_neg (by decide), ← em4, gI_1, if_neg (by decide), ← em3, gI_1, if_neg (by decide)]; exact c7
        have d38 : m5.1 62 38 = 3 := by rw [← em5, gI_1, if_neg (by decide), ← em4, gI_1, if_neg (by decide), ← em3, gI_1, if_pos ⟨rfl, rfl⟩]
        have d39 : m5.1 62 39 = nI (b (tS b n p)) := by rw [← em5, gI_1, if_neg (by decide), ← em4, gI_1, if_pos ⟨rfl, rfl⟩]
        have d37 : m5.1 62 37 = nI (tS b n p + 1) := by rw [← em5, gI_1, if_pos ⟨rfl, rfl⟩]
        have eL : tL b n p = 1 := by
          unfold tL
          rw [if_pos hn, hl, hd]
          rfl
        have good : sgn (b (tS b n p)) = true → ∃ r m', b_X8_next_358 gSH F m5 = some (r, m') ∧ Nx m m' r b n p := by
          intro hsg
          have eK : tK b n p = b (tS b n p) := by
            unfold tK
            rw [if_pos hn, hl, hd, hsg]
            rfl
          have hlt : b (tS b n p) < 256 := hbc
          refine ⟨1, m5, rfl, k5, d40, fun h => by omega, fun _ => ⟨rfl, d7, ?_, fun _ => by rw [eK]; exact d39, fun _ => by rw [eL]; exact d37, fun h => by omega⟩⟩
          rw [d38, eK]
          unfold rT
          rw [if_neg (by omega), if_neg (by omega), if_neg (by omega), if_pos hlt]
          rfl
        have lit : ∀ v : Nat, v < 256 → (nI (b (tS b n p)) = nI v ↔ b (tS b n p) = v) := fun v hv => nI_eq (by omega) (by omega)
        have hsi := sgn_iff (b (tS b n p))
        rw [show (123 : Int32) = nI 123 from rfl, show (125 : Int32) = nI 125 from rfl, show (40 : Int32) = nI 40 from rfl, show (41 : Int32) = nI 41 from rfl, show (61 : Int32) = nI 61 from rfl, show (43 : Int32) = nI 43 from rfl, show (46 : Int32) = nI 46 from rfl, show (44 : Int32) = nI 44 from rfl, show (59 : Int32) = nI 59 from rfl]
        by_cases x1 : b (tS b n p) = 123
        · rw [if_pos ((lit 123 (by decide)).mpr x1)]; exact good (hsi.mpr (by omega))
        rw [if_neg (fun e => x1 ((lit 123 (by decide)).mp e))]
        by_cases x2 : b (tS b n p) = 125
        · rw [if_pos ((lit 125 (by decide)).mpr x2)]; exact good (hsi.mpr (by omega))
        rw [if_neg (fun e => x2 ((lit 125 (by decide)).mp e))]
        by_cases x3 : b (tS b n p) = 40
        · rw [if_pos ((lit 40 (by decide)).mpr x3)]; exact good (hsi.mpr (by omega))
        rw [if_neg (fun e => x3 ((lit 40 (by decide)).mp e))]
        by_cases x4 : b (tS b n p) = 41
        · rw [if_pos ((lit 41 (by decide)).mpr x4)]; exact good (hsi.mpr (by omega))
        rw [if_neg (fun e => x4 ((lit 41 (by decide)).mp e))]
        by_cases x5 : b (tS b n p) = 61
        · rw [if_pos ((lit 61 (by decide)).mpr x5)]; exact good (hsi.mpr (by omega))
        rw [if_neg (fun e => x5 ((lit 61 (by decide)).mp e))]
        by_cases x6 : b (tS b n p) = 43
        · rw [if_pos ((lit 43 (by decide)).mpr x6)]; exact good (hsi.mpr (by omega))
        rw [if_neg (fun e => x6 ((lit 43 (by decide)).mp e))]
        by_cases x7 : b (tS b n p) = 46
        · rw [if_pos ((lit 46 (by decide)).mpr x7)]; exact good (hsi.mpr (by omega))
        rw [if_neg (fun e => x7 ((lit 46 (by decide)).mp e))]
        by_cases x8 : b (tS b n p) = 44
        · rw [if_pos ((lit 44 (by decide)).mpr x8)]; exact good (hsi.mpr (by omega))
        rw [if_neg (fun e => x8 ((lit 44 (by decide)).mp e))]
        by_cases x9 : b (tS b n p) = 59
        · rw [if_pos ((lit 59 (by decide)).mpr x9)]; exact good (hsi.mpr (by omega))
        rw [if_neg (fun e => x9 ((lit 59 (by decide)).mp e))]
        have hsg : sgn (b (tS b n p)) = false := by
          rw [Bool.eq_false_iff]
          intro h
          have := hsi.mp h
          omega
        have eK : tK b n p = 267 := by
          unfold tK
          rw [if_pos hn, hl, hd, hsg]
          rfl
        rw [s_blame d7, g_bs, g_nmb, g_nmb, if_pos rfl, d40]
        refine ⟨0, _, rfl, (k5.s (by decide)).s (by decide), ?_, fun _ => ⟨rfl, ?_, ?_⟩, fun h => absurd eK h⟩
        · rw [gI_1, if_neg (by decide), gI_1, if_neg (by decide)]; exact d40
        · rw [gI_1, if_neg (by decide), gI_1, if_pos ⟨rfl, rfl⟩]
        · rw [gI_1, if_pos ⟨rfl, rfl⟩]
      · rw [if_neg (show ¬ b2 true = 0 by decide)]
        obtain ⟨r, m', h1, h2, h3, h4, h5, h6⟩ := s_nextD (F := F) (b := b) (n := n) (s := tS b n p) (n - tS b n p) F (tS b n p) m2 (h.k k2) c37 c40 c7 (by omega) (Nat.le_refl _) (by omega)
        have eL : tL b n p = runP cDg b (n - tS b n p) (tS b n p) - tS b n p := by
          unfold tL
          rw [if_pos hn, hl, hd]
          rfl
        have hge := runP_ge cDg b (n - tS b n p) (tS b n p)
        have eK : tK b n p = if 9 < tL b n p then 267 else 265 := by
          unfold tK
          rw [if_pos hn, hl, hd]
          rfl
        refine ⟨r, m', h1, k2.trans h2, h3, fun e => ?_, fun e => ?_⟩
        · have h9 : 9 < tL b n p := by
            rw [eK] at e
            by_cases h9 : 9 < tL b n p
            · exact h9
            · rw [if_neg h9] at e; cases e
          exact h5 (by rw [← eL]; exact h9)
        · have h9 : ¬ 9 < tL b n p := by
            intro h9
            rw [if_pos h9] at eK
            exact e eK
          rw [if_neg h9] at eK
          obtain ⟨g1, g2, g3⟩ := h6 (by rw [← eL]; exact h9)
          refine ⟨g1, g2, ?_, fun h => by omega, fun _ => ?_, fun _ h => by omega⟩
          · rw [g3, eK]; rfl
          · rw [h4, eL]
            congr 1
            omega
    · rw [if_neg (show ¬ b2 true = 0 by decide)]
      obtain ⟨r, m', h1, h2, h3, h4, h5, h6⟩ := s_nextN (F := F) (b := b) (n := n) (s := tS b n p) hF (n - tS b n p) F (tS b n p) m2 (h.k k2) (hW.k k2) c37 c40 c7 (by omega) (Nat.le_refl _) (by omega)
      have eL : tL b n p = runP cIn b (n - tS b n p) (tS b n p) - tS b n p := by
        unfold tL
        rw [if_pos hn, hl]
        rfl
      have hge := runP_ge cIn b (n - tS b n p) (tS b n p)
      have eK : tK b n p = if 12 < tL b n p then 267 else wordK b (tS b n p) (tL b n p) := by
        unfold tK
        rw [if_pos hn, hl]
        rfl
      have hrng := wordK_rng b (tS b n p) (tL b n p)
      refine ⟨r, m', h1, k2.trans h2, h3, fun e => ?_, fun e => ?_⟩
      · have h9 : 12 < tL b n p := by
          rw [eK] at e
          by_cases h9 : 12 < tL b n p
          · exact h9
          · rw [if_neg h9] at e; omega
        exact h5 (by rw [← eL]; exact h9)
      · have h9 : ¬ 12 < tL b n p := by
          intro h9
          rw [if_pos h9] at eK
          exact e eK
        rw [if_neg h9] at eK
        obtain ⟨g1, g2, g3, g4⟩ := h6 (by rw [← eL]; exact h9)
        refine ⟨g1, g2, ?_, fun h => by omega, fun _ => ?_, fun _ _ => ?_⟩
        · rw [g3, eK, eL]
        · rw [h4, eL]
          congr 1
          omega
        · rw [g4, eL]
  · have eK : tK b n p = 266 := by
      unfold tK
      rw [if_neg hn]
    rw [sAt_out hn, if_neg (by decide)]
    refine ⟨1, m2, rfl, k2, c40, fun h => by omega, fun _ => ⟨rfl, c7, ?_, fun h => by omega, fun h => absurd eK h, fun _ h => by omega⟩⟩
    rw [c38, eK]
    rfl
theorem s_next {m : gM} {F n p : Nat} {b : Nat → Nat} (h : MadeR m b n) (hW : WdR m) (hF : 5000 ≤ F) (hp : p ≤ n) (h37 : m.1 62 37 = nI p) (h7 : m.1 62 7 = 0) :
    ∃ r m', f_X8_next gSH F 62 m = some (r, m') ∧ Nx m m' r b n p := by
  have hle := h.2.2.1
  have key : ∀ (k N i : Nat) (m : gM), MadeR m b n → WdR m → m.1 62 37 = nI i → m.1 62 7 = 0 → i + k = n → p ≤ i → tS b n p = runP cBl b k i → k < N → ∃ r m', l_X8_next_0 gSH F N 62 m = some (r, m') ∧ Nx m m' r b n p := by
    intro k
    induction k with
    | zero =>
      intro N i m h hW h37 h7 hi hpi he hN
      obtain ⟨N, rfl⟩ : ∃ N', N = N' + 1 := ⟨N - 1, by omega⟩
      exact s_nextB (k0 := l_X8_next_0 gSH F N) h hW hF hp (by rw [he]; exact h37) h7
    | succ k ih =>
      intro N i m h hW h37 h7 hi hpi he hN
      obtain ⟨N, rfl⟩ : ∃ N', N = N' + 1 := ⟨N - 1, by omega⟩
      by_cases hc : cBl (nI (b i)) = true
      · have er : runP cBl b (k + 1) i = runP cBl b k (i + 1) := by
          show (if cBl (nI (b i)) = true then runP cBl b k (i + 1) else i) = _
          rw [if_pos hc]
        rw [er] at he
        have k1 : K62 fT m (gsI m 62 37 (nI (i + 1))) := (K62.refl m).s (by decide)
        obtain ⟨r, m', h1, h2, h3⟩ := ih N (i + 1) (gsI m 62 37 (nI (i + 1))) (h.k k1) (hW.k k1) (by rw [gI_1, if_pos ⟨rfl, rfl⟩]) (by rw [gI_1, if_neg (by decide)]; exact h7) (by omega) (by omega) he (by omega)
        refine ⟨r, m', ?_, k1.trans h2, h3⟩
        rw [← h1]
        have e52 : b_X8_next_52 gSH F (l_X8_next_0 gSH F N) 62 m = l_X8_next_0 gSH F N 62 (gsI m 62 37 (nI (i + 1))) := by
          unfold b_X8_next_52
          rw [ob_62, g_ift, g_nmb, h37, nI_1]
        show b_X8_next_0 gSH F (l_X8_next_0 gSH F N) 62 m = _
        unfold b_X8_next_0
        rw [ob_62, g_ift, h37, s_byteAt h (by omega), g_bs, g_nmb, g_nmb, sAt_in (by omega)]
        unfold cBl at hc
        simp only [Bool.or_eq_true, decide_eq_true_eq] at hc
        by_cases n1 : nI (b i) = 32
        · rw [if_pos n1]; exact e52
        rw [if_neg n1, h37, s_byteAt h (by omega), g_bs, g_nmb, g_nmb, sAt_in (by omega)]
        by_cases n2 : nI (b i) = 9
        · rw [if_pos n2]; exact e52
        rw [if_neg n2, h37, s_byteAt h (by omega), g_bs, g_nmb, g_nmb, sAt_in (by omega)]
        by_cases n3 : nI (b i) = 10
        · rw [if_pos n3]; exact e52
        rw [if_neg n3, h37, s_byteAt h (by omega), g_bs, g_nmb, g_nmb, sAt_in (by omega)]
        by_cases n4 : nI (b i) = 13
        · rw [if_pos n4]; exact e52
        rcases hc with ((x | x) | x) | x
        · exact absurd x n1
        · exact absurd x n2
        · exact absurd x n3
        · exact absurd x n4
      · have er : runP cBl b (k + 1) i = i := by
          show (if cBl (nI (b i)) = true then runP cBl b k (i + 1) else i) = _
          rw [if_neg hc]
        rw [er] at he
        exact s_nextB (k0 := l_X8_next_0 gSH F N) h hW hF hp (by rw [he]; exact h37) h7
  exact key (n - p) F p m h hW h37 h7 (by omega) (Nat.le_refl _) rfl (by omega)
