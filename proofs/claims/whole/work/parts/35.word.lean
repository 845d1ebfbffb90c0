/-! WORDS -/
def WDS : List Nat := [109, 111, 100, 117, 108, 101, 32, 105, 109, 112, 111, 114, 116, 32, 100, 101, 102, 32, 32, 32, 32, 102, 117, 110, 32, 32, 32, 32, 108, 101, 116, 32, 32, 32, 32, 114, 101, 99, 32, 32, 32, 32, 112, 97, 114, 32, 32, 32, 32, 105, 110, 32, 32, 32, 32, 32]
def wl (w : Nat) : Nat := [6, 6, 3, 3, 3, 3, 3, 2].getD w 0
def isWb (b : Nat → Nat) (s len w : Nat) : Bool := decide (len = wl w) && (List.range len).all (fun i => decide (WDS.getD (7 * w + i) 0 = b (s + i)))
theorem isWb_iff {b : Nat → Nat} {s len w : Nat} : isWb b s len w = true ↔ len = wl w ∧ ∀ i, i < len → WDS.getD (7 * w + i) 0 = b (s + i) := by
  unfold isWb
  simp only [Bool.and_eq_true, decide_eq_true_eq, List.all_eq_true, List.mem_range]
def wkF (b : Nat → Nat) (s len : Nat) : Nat → Nat → Nat
  | 0, _ => 264
  | k + 1, w => if isWb b s len w = true then 256 + w else wkF b s len k (w + 1)
def wordK (b : Nat → Nat) (s len : Nat) : Nat := wkF b s len 8 0
theorem wl_le : ∀ w, w < 8 → wl w ≤ 6 ∧ 2 ≤ wl w := by decide
theorem wd_blank : ∀ w, w < 8 → ∀ l, l < 7 → (WDS.getD (7 * w + l) 0 = 32 ↔ wl w ≤ l) := by decide
theorem wd_sB : ∀ i, i < 56 → (((sB 1000100 i &&& (255 : Int32)).toUInt32 % 65536).toInt32 = nI (WDS.getD i 0) ∧ cB (((sB 1000100 i &&& (255 : Int32)).toUInt32 % 65536).toInt32) = true) := by decide +kernel
theorem s_isLatin (F k : Nat) (hk : isS k = true) (m : gM) : f_J0_isLatin1_aae02 gSH F k m = some (1, m) := by
  unfold f_J0_isLatin1_aae02
  rw [if_neg (by decide), hk, g_ift, if_pos rfl]
theorem s_charAt {m : gM} {F i : Nat} (hi : i < 56) : f_J0_charAt_5068e gSH F 1000000 (nI i) m = some (nI (WDS.getD i 0), m) := by
  obtain ⟨e1, e2⟩ := wd_sB i hi
  have c1 : f_J1_charAt_3b067 gSH F (1000000 + 100) (nI i) m = some (nI (WDS.getD i 0), m) := by
    unfold f_J1_charAt_3b067 f_J0_checkIndex_df160 f_J3_checkIndex_8e157
    rw [show isA (1000000 + 100) = true by decide, g_ift, if_neg (nI_pos (by omega)), if_pos (show nI i < Int32.ofNat (sL (1000000 + 100)) from nI_lt (b := 56) hi (by decide)), g_bs, g_bs, show sL (1000000 + 100) = 56 by decide, g_inI hi (by decide), g_ift, nI_clamp (by omega)]
    rw [show sB (1000000 + 100) i = sB 1000100 i from rfl, e2, g_ift, e1]
  unfold f_J0_charAt_5068e
  rw [show isS 1000000 = true by decide, g_ift, s_isLatin F 1000000 (by decide), g_bs, g_nmb, g_nmb, if_neg (show ¬ (1 : Int32) = 0 by decide), c1, g_bs, g_nmb, g_nmb]
  rw [e1] at e2
  rw [e2, g_ift]
/-- one word of the class -/
theorem s_isWordL {m : gM} {F s len w : Nat} {b : Nat → Nat} (hb : ∀ j, j < len → b (s + j) < 256) (hl : len < 7) (hw : w < 8) (h2 : m.1 56 2 = nI len) (hH : m.2.1 56 3 = nmH b s len) (hL : m.2.1 56 4 = nmL b s len) :
    ∀ (k N i : Nat), i + k = len → k < N → ((∀ j, i ≤ j → j < len → WDS.getD (7 * w + j) 0 = b (s + j)) → l_X6_isWord_20 gSH F N 56 (nI (7 * w)) (nI i) m = some (1, m)) ∧ (¬ (∀ j, i ≤ j → j < len → WDS.getD (7 * w + j) 0 = b (s + j)) → l_X6_isWord_20 gSH F N 56 (nI (7 * w)) (nI i) m = some (0, m)) := by
  have hW : ∀ j, WDS.getD j 0 < 256 := by
    intro j
    by_cases hj : j < 56
    · exact (show ∀ j, j < 56 → WDS.getD j 0 < 256 by decide) j hj
    · rw [List.getD_eq_getElem?_getD, List.getElem?_eq_none (by simp [WDS]; omega)]
      decide
  intro k
  induction k with
  | zero =>
    intro N i hi hN
    obtain ⟨N, rfl⟩ : ∃ N', N = N' + 1 := ⟨N - 1, by omega⟩
    have e : l_X6_isWord_20 gSH F (N + 1) 56 (nI (7 * w)) (nI i) m = some (1, m) := by
      show b_X6_isWord_20 gSH F (l_X6_isWord_20 gSH F N) 56 (nI (7 * w)) (nI i) m = _
      unfold b_X6_isWord_20
      rw [ob_56, g_ift, h2, if_pos (nI_le (by omega) (by omega))]
    exact ⟨fun _ => e, fun h => absurd (fun j h1 h2 => by omega) h⟩
  | succ k ih =>
    intro N i hi hN
    obtain ⟨N, rfl⟩ : ∃ N', N = N' + 1 := ⟨N - 1, by omega⟩
    obtain ⟨i1, i2⟩ := ih N (i + 1) (by omega) (by omega)
    have e : l_X6_isWord_20 gSH F (N + 1) 56 (nI (7 * w)) (nI i) m = if WDS.getD (7 * w + i) 0 = b (s + i) then l_X6_isWord_20 gSH F N 56 (nI (7 * w)) (nI (i + 1)) m else some (0, m) := by
      show b_X6_isWord_20 gSH F (l_X6_isWord_20 gSH F N) 56 (nI (7 * w)) (nI i) m = _
      unfold b_X6_isWord_20
      rw [ob_56, g_ift, h2, if_neg (nI_ge (by omega) (by omega)), show isS 1000000 = true by decide, g_ift, nI_add, s_charAt (by omega), g_bs, g_nmb, g_nmb, hH, hL, s_nameByte hb (by omega), g_bs, g_nmb, g_nmb]
      have e1 : nmB b s len i = b (s + i) := if_pos (by omega)
      rw [e1]
      by_cases hc : WDS.getD (7 * w + i) 0 = b (s + i)
      · rw [if_pos hc, if_pos (by rw [hc]), g_nmb, nI_a1]
      · rw [if_neg hc, if_neg (fun e => hc ((nI_eq (by have := hW (7 * w + i); omega) (by have := hb i (by omega); omega)).mp e))]
    rw [e]
    by_cases hc : WDS.getD (7 * w + i) 0 = b (s + i)
    · rw [if_pos hc]
      refine ⟨fun h => i1 (fun j h1 h2 => h j (by omega) h2), fun h => i2 (fun h' => h (fun j h1 h2 => ?_))⟩
      by_cases hj : j = i
      · rw [hj]; exact hc
      · exact h' j (by omega) h2
    · rw [if_neg hc]
      exact ⟨fun h => absurd (h i (Nat.le_refl _) (by omega)) hc, fun _ => rfl⟩
theorem s_isWord {m : gM} {F s len w : Nat} {b : Nat → Nat} (hb : ∀ j, j < len → b (s + j) < 256 ∧ b (s + j) ≠ 32) (hl : len < 7) (hw : w < 8) (hF : 5000 ≤ F) (h2 : m.1 56 2 = nI len) (hH : m.2.1 56 3 = nmH b s len) (hL : m.2.1 56 4 = nmL b s len) :
    f_X6_isWord gSH F 56 (nI (7 * w)) m = some (b2 (isWb b s len w), m) := by
  obtain ⟨l1, l2⟩ := s_isWordL (F := F) (fun j hj => (hb j hj).1) hl hw h2 hH hL len F 0 (by omega) (by omega)
  have q := wd_blank w hw len hl
  have hwl := wl_le w hw
  unfold f_X6_isWord
  rw [ob_56, g_ift, show isS 1000000 = true by decide, g_ift, h2, nI_add, s_charAt (by omega), g_bs, g_nmb, g_nmb]
  by_cases hc : wl w ≤ len
  · rw [q.mpr hc, if_pos (show nI 32 = 32 from rfl)]
    by_cases ha : ∀ j, 0 ≤ j → j < len → WDS.getD (7 * w + j) 0 = b (s + j)
    · have e : len = wl w := by
        by_cases hlt : wl w < len
        · have := ha (wl w) (Nat.zero_le _) hlt
          rw [(wd_blank w hw (wl w) (by omega)).mpr (Nat.le_refl _)] at this
          exact absurd this.symm (hb (wl w) hlt).2
        · omega
      rw [show (0 : Int32) = nI 0 from rfl, l1 ha, show isWb b s len w = true from isWb_iff.mpr ⟨e, fun i hi => ha i (Nat.zero_le _) hi⟩]
      rfl
    · have e : isWb b s len w = false := by
        rw [Bool.eq_false_iff]
        intro h
        exact ha (fun j _ hj => (isWb_iff.mp h).2 j hj)
      rw [show (0 : Int32) = nI 0 from rfl, l2 ha, e]
      rfl
  · have hne : WDS.getD (7 * w + len) 0 ≠ 32 := fun e => hc (q.mp e)
    have hlt : WDS.getD (7 * w + len) 0 < 256 := (show ∀ j, j < 56 → WDS.getD j 0 < 256 by decide) _ (by omega)
    rw [if_neg (show ¬ nI (WDS.getD (7 * w + len) 0) = 32 from fun e => hne ((nI_eq (b := 32) (by omega) (by decide)).mp e))]
    have e : isWb b s len w = false := by
      rw [Bool.eq_false_iff]
      intro h
      have := (isWb_iff.mp h).1
      omega
    rw [e]
    rfl
theorem s_wordOrName {m : gM} {F s len : Nat} {b : Nat → Nat} (hb : ∀ j, j < len → b (s + j) < 256 ∧ b (s + j) ≠ 32) (hl : len < 2 ^ 31) (hF : 5000 ≤ F) (h2 : m.1 56 2 = nI len) (hH : m.2.1 56 3 = nmH b s len) (hL : m.2.1 56 4 = nmL b s len) :
    f_X6_wordOrName gSH F 56 m = some (nI (wordK b s len), m) := by
  have key : ∀ (k N w : Nat), w + k = 8 → k < N → l_X6_wordOrName_2 gSH F N 56 (nI w) m = some (nI (wkF b s len k w), m) := by
    intro k
    induction k with
    | zero =>
      intro N w hk hN
      obtain ⟨N, rfl⟩ : ∃ N', N = N' + 1 := ⟨N - 1, by omega⟩
      show b_X6_wordOrName_2 gSH F (l_X6_wordOrName_2 gSH F N) 56 (nI w) m = _
      unfold b_X6_wordOrName_2 wkF
      rw [if_pos (show (8 : Int32) ≤ nI w from nI_le (a := 8) (by omega) (by omega))]
      rfl
    | succ k ih =>
      intro N w hk hN
      obtain ⟨N, rfl⟩ : ∃ N', N = N' + 1 := ⟨N - 1, by omega⟩
      show b_X6_wordOrName_2 gSH F (l_X6_wordOrName_2 gSH F N) 56 (nI w) m = _
      unfold b_X6_wordOrName_2
      rw [if_neg (show ¬ (8 : Int32) ≤ nI w from nI_ge (b := 8) (by omega) (by decide)), ob_56, g_ift, h2]
      by_cases h7 : 7 ≤ len
      · rw [if_pos (show (7 : Int32) ≤ nI len from nI_le (a := 7) h7 hl)]
        have hn : ∀ k w, w + k = 8 → wkF b s len k w = 264 := by
          intro k
          induction k with
          | zero => intro w _; rfl
          | succ k ih =>
            intro w hw
            unfold wkF
            have e : isWb b s len w = false := by
              rw [Bool.eq_false_iff]
              intro h
              have h1 := (isWb_iff.mp h).1
              have h2 := wl_le w (by omega)
              omega
            rw [e, if_neg (by decide)]
            exact ih (w + 1) (by omega)
        rw [hn (k + 1) w hk]
        rfl
      · rw [if_neg (show ¬ (7 : Int32) ≤ nI len from nI_ge (b := 7) (by omega) (by decide)), show (7 : Int32) = nI 7 from rfl, pk_mul, Nat.mul_comm w 7, s_isWord hb (by omega) (by omega) hF h2 hH hL, g_bs, g_nmb, g_nmb]
        unfold wkF
        cases hw : isWb b s len w
        · rw [if_pos (show b2 false = 0 by decide), if_neg (by decide), g_nmb, nI_a1]
          exact ih N (w + 1) (by omega) (by omega)
        · rw [if_neg (show ¬ b2 true = 0 by decide), if_pos rfl, show (256 : Int32) = nI 256 from rfl, nI_add]
  exact key 8 F 0 (by omega) (by omega)
