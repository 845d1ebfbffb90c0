/-! BYTES AND RUNS OF BYTES -/
def cBl (x : Int32) : Bool := decide (x = 32) || decide (x = 9) || decide (x = 10) || decide (x = 13)
def cDg (x : Int32) : Bool := decide (48 ≤ x) && decide (x ≤ 57)
def cLt (x : Int32) : Bool := (decide (97 ≤ x) && decide (x ≤ 122)) || (decide (65 ≤ x) && decide (x ≤ 90)) || decide (x = 95)
def cIn (x : Int32) : Bool := cLt x || cDg x
def b2 (b : Bool) : Int32 := if b = true then 1 else 0
theorem b2_0 {b : Bool} : b2 b = 0 ↔ b = false := by cases b <;> decide
theorem s_isBlank (sh : List gS) (F : Nat) (x : Int32) (m : gM) : f_X6_isBlank sh F x m = some (b2 (cBl x), m) := by
  unfold f_X6_isBlank b_X6_isBlank_24 cBl b2
  by_cases h1 : x = 32
  · simp [h1]
  · by_cases h2 : x = 9
    · simp [h2]
    · by_cases h3 : x = 10
      · simp [h3]
      · by_cases h4 : x = 13
        · simp [h4]
        · simp [h1, h2, h3, h4]
theorem s_isDigit (sh : List gS) (F : Nat) (x : Int32) (m : gM) : f_X6_isDigit sh F x m = some (b2 (cDg x), m) := by
  unfold f_X6_isDigit cDg b2
  by_cases h1 : x < 48
  · have h2 : ¬ (48 : Int32) ≤ x := Int32.not_le.mpr h1
    simp [h1, h2]
  · have h2 : (48 : Int32) ≤ x := Int32.not_lt.mp h1
    by_cases h3 : (57 : Int32) < x
    · have h4 : ¬ x ≤ (57 : Int32) := Int32.not_le.mpr h3
      simp [h1, h3, h4]
    · have h4 : x ≤ (57 : Int32) := Int32.not_lt.mp h3
      simp [h1, h2, h3, h4]
theorem s_beginsName (sh : List gS) (F : Nat) (x : Int32) (m : gM) : f_X6_beginsName sh F x m = some (b2 (cLt x), m) := by
  have key : ∀ a : Int32, ∀ b : Int32, (a ≤ b ↔ ¬ b < a) := fun a b => ⟨fun h => Int32.not_lt.mpr h, fun h => Int32.not_lt.mp h⟩
  unfold f_X6_beginsName b_X6_beginsName_12 b_X6_beginsName_24 b_X6_beginsName_30 cLt b2
  simp only [key 97 x, key 65 x]
  by_cases h1 : x < 97 <;> by_cases h2 : x ≤ 122 <;> by_cases h3 : x < 65 <;> by_cases h4 : x ≤ 90 <;> by_cases h5 : x = 95 <;> simp [h1, h2, h3, h4, h5]
theorem s_isInName (sh : List gS) (F : Nat) (x : Int32) (m : gM) : f_X6_isInName sh F x m = some (b2 (cIn x), m) := by
  unfold f_X6_isInName b_X6_isInName_14
  rw [s_beginsName, g_bs, g_nmb, g_nmb]
  unfold cIn
  cases h1 : cLt x
  · simp only [b2, Bool.false_eq_true, if_false, if_true, Bool.false_or]
    rw [s_isDigit, g_bs, g_nmb, g_nmb]
    cases cDg x <;> simp [b2]
  · simp [b2]
theorem s_isLetter (sh : List gS) (F : Nat) (x : Int32) (m : gM) : f_X8_isLetter sh F x m = some (b2 (cLt x), m) := by
  have key : ∀ a : Int32, ∀ b : Int32, (a ≤ b ↔ ¬ b < a) := fun a b => ⟨fun h => Int32.not_lt.mpr h, fun h => Int32.not_lt.mp h⟩
  unfold f_X8_isLetter cLt b2
  simp only [key 97 x, key 65 x]
  by_cases h1 : x < 97 <;> by_cases h2 : x ≤ 122 <;> by_cases h3 : x < 65 <;> by_cases h4 : x ≤ 90 <;> by_cases h5 : x = 95 <;> simp [h1, h2, h3, h4, h5, b_X8_isLetter_30, b_X8_isLetter_24, b_X8_isLetter_12]
theorem s_isDigit8 (sh : List gS) (F : Nat) (x : Int32) (m : gM) : f_X8_isDigit sh F x m = some (b2 (cDg x), m) := by
  unfold f_X8_isDigit cDg b2
  by_cases h1 : x < 48
  · have h2 : ¬ (48 : Int32) ≤ x := Int32.not_le.mpr h1
    simp [h1, h2]
  · have h2 : (48 : Int32) ≤ x := Int32.not_lt.mp h1
    by_cases h3 : (57 : Int32) < x
    · have h4 : ¬ x ≤ (57 : Int32) := Int32.not_le.mpr h3
      simp [h1, h3, h4]
    · have h4 : x ≤ (57 : Int32) := Int32.not_lt.mp h3
      simp [h1, h2, h3, h4]
/-- byte i of a row of n bytes; -1 behind it -/
def sAt (b : Nat → Nat) (n i : Nat) : Int32 := if i < n then nI (b i) else -1
theorem s_at {m : gM} {t n F i : Nat} {b : Nat → Nat} (h : TapC m t b n) (hi : i < 2 ^ 31) : f_X5_at gSH F t (nI i) m = some (sAt b n i, m) := by
  obtain ⟨ht, hr, hs, hle, hb⟩ := h
  obtain ⟨o1, o2⟩ := ob_tape ht
  unfold f_X5_at sAt
  rw [if_neg (nI_pos hi), o1, g_ift, hs]
  by_cases hin : i < n
  · rw [if_neg (nI_ge hin (by omega)), hr, g_bs, o2, g_inI (by omega) (by decide), g_ift, nI_clamp hi, if_pos hin, (hb i hin).2, (sb_byte _ (hb i hin).1).1]
  · rw [if_pos (nI_le (by omega) hi), if_neg hin]
/-- the reference's row 'made' -/
def MadeR (m : gM) (b : Nat → Nat) (n : Nat) : Prop := m.2.2 62 5 = some 65 ∧ m.1 62 6 = nI n ∧ n ≤ 4000 ∧ ∀ i, i < n → b i < 256 ∧ m.1 65 i = nI (b i)
theorem ob_62 : oB gSH 62 8 = true := by decide +kernel
theorem s_byteAt {m : gM} {n F i : Nat} {b : Nat → Nat} (h : MadeR m b n) (hi : i < 2 ^ 31) : f_X8_byteAt gSH F 62 (nI i) m = some (sAt b n i, m) := by
  obtain ⟨hr, hs, hle, hb⟩ := h
  unfold f_X8_byteAt sAt
  rw [ob_62, g_ift, hs]
  by_cases hin : i < n
  · rw [if_neg (nI_ge hin (by omega)), hr, g_bs, show aB gSH 65 .int (nI i) = inB (nI i) 4800 from rfl, g_inI (by omega) (by decide), g_ift, nI_clamp hi, if_pos hin, (hb i hin).2]
  · rw [if_pos (nI_le (by omega) hi), if_neg hin]
/-- how far a run of bytes of a kind goes -/
def runP (p : Int32 → Bool) (b : Nat → Nat) : Nat → Nat → Nat
  | 0, i => i
  | k + 1, i => if p (nI (b i)) = true then runP p b k (i + 1) else i
theorem runP_ge (p : Int32 → Bool) (b : Nat → Nat) : ∀ k i, i ≤ runP p b k i ∧ runP p b k i ≤ i + k := by
  intro k
  induction k with
  | zero => intro i; exact ⟨Nat.le_refl _, Nat.le_refl _⟩
  | succ k ih =>
    intro i
    unfold runP
    split
    · have := ih (i + 1)
      omega
    · omega
theorem runP_all (p : Int32 → Bool) (b : Nat → Nat) : ∀ k i j, i ≤ j → j < runP p b k i → p (nI (b j)) = true := by
  intro k
  induction k with
  | zero =>
    intro i j h1 h2
    have h3 : j < i := h2
    omega
  | succ k ih =>
    intro i j h1 h2
    unfold runP at h2
    split at h2
    · rename_i hp
      by_cases hij : j = i
      · rw [hij]; exact hp
      · exact ih (i + 1) j (by omega) h2
    · omega
theorem runP_end (p : Int32 → Bool) (b : Nat → Nat) : ∀ k i, runP p b k i < i + k → p (nI (b (runP p b k i))) = false := by
  intro k
  induction k with
  | zero => intro i h; exact absurd h (by simp [runP])
  | succ k ih =>
    intro i h
    unfold runP at h ⊢
    split
    · rename_i hp
      rw [if_pos hp] at h
      exact ih (i + 1) (by omega)
    · rename_i hp
      simpa using hp
