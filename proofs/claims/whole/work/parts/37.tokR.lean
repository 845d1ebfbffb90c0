/-! THE REFERENCE'S TOKENS -/
/-- the words' rows -/
def WdR (m : gM) : Prop := m.2.2 62 35 = some 86 ∧ m.2.2 62 36 = some 87 ∧ (∀ w, w < 9 → m.1 87 w = nI ([0, 6, 12, 15, 18, 21, 24, 27, 29].getD w 0)) ∧ (∀ w, w < 8 → ∀ i, i < wl w → m.1 86 ([0, 6, 12, 15, 18, 21, 24, 27, 29].getD w 0 + i) = nI (WDS.getD (7 * w + i) 0))
def wbg (w : Nat) : Nat := [0, 6, 12, 15, 18, 21, 24, 27, 29].getD w 0
theorem wbg_s : ∀ w, w < 8 → wbg (w + 1) = wbg w + wl w ∧ wbg w ≤ 27 ∧ wbg (w + 1) ≤ 29 := by decide
theorem wd_uni : ∀ w, w < 8 → ∀ v, v < 8 → wl w = wl v → WDS.getD (7 * w) 0 = WDS.getD (7 * v) 0 → w = v := by decide
theorem isWb_uni {b : Nat → Nat} {s len w v : Nat} (hw : w < 8) (hv : v < 8) (h1 : isWb b s len w = true) (h2 : isWb b s len v = true) : w = v := by
  obtain ⟨a1, a2⟩ := isWb_iff.mp h1
  obtain ⟨c1, c2⟩ := isWb_iff.mp h2
  have hl := wl_le w hw
  have e1 := a2 0 (by omega)
  have e2 := c2 0 (by omega)
  exact wd_uni w hw v hv (by omega) (by rw [Nat.add_zero] at e1 e2; rw [e1, e2])
def wfF (b : Nat → Nat) (s len : Nat) : Nat → Nat → Nat → Nat
  | 0, _, f => f
  | k + 1, w, f => wfF b s len k (w + 1) (if isWb b s len w = true then 10 + w else f)
/-- how the reference calls a token of the class's kind k -/
def rT (k : Nat) : Nat := if k = 266 then 0 else if k = 264 then 1 else if k = 265 then 2 else if k < 256 then 3 else k - 246
theorem wf_wk {b : Nat → Nat} {s len : Nat} : ∀ k w f, w + k = 8 → (wkF b s len k w = 264 ∧ wfF b s len k w f = f) ∨ ∃ v, w ≤ v ∧ v < 8 ∧ isWb b s len v = true ∧ wkF b s len k w = 256 + v ∧ wfF b s len k w f = 10 + v := by
  intro k
  induction k with
  | zero => intro w f _; exact Or.inl ⟨rfl, rfl⟩
  | succ k ih =>
    intro w f hw
    unfold wkF wfF
    cases hc : isWb b s len w
    · rw [if_neg (by decide), if_neg (by decide)]
      rcases ih (w + 1) f (by omega) with h | ⟨v, h1, h2, h3, h4, h5⟩
      · exact Or.inl h
      · exact Or.inr ⟨v, by omega, h2, h3, h4, h5⟩
    · rw [if_pos rfl, if_pos rfl]
      refine Or.inr ⟨w, Nat.le_refl _, by omega, hc, rfl, ?_⟩
      rcases ih (w + 1) (10 + w) (by omega) with h | ⟨v, h1, h2, h3, h4, h5⟩
      · exact h.2
      · have := isWb_uni (by omega) h2 hc h3
        omega
theorem wf_rT {b : Nat → Nat} {s len : Nat} : wfF b s len 8 0 1 = rT (wordK b s len) := by
  rcases wf_wk (b := b) (s := s) (len := len) 8 0 1 rfl with ⟨h1, h2⟩ | ⟨v, h1, h2, h3, h4, h5⟩
  · rw [h2]
    unfold wordK
    rw [h1]
    rfl
  · rw [h5]
    unfold wordK
    rw [h4]
    unfold rT
    rw [if_neg (by omega), if_neg (by omega), if_neg (by omega), if_neg (by omega)]
    omega
theorem wordK_rng (b : Nat → Nat) (s len : Nat) : 256 ≤ wordK b s len ∧ wordK b s len ≤ 264 := by
  rcases wf_wk (b := b) (s := s) (len := len) 8 0 1 rfl with ⟨h1, h2⟩ | ⟨v, h1, h2, h3, h4, h5⟩
  · unfold wordK; omega
  · unfold wordK; omega
section WOF
variable {m : gM} {F x1 RN s len : Nat} {b : Nat → Nat} (hW : WdR m) (hx : ∀ x, aB gSH x1 .int x = inB x RN) (hRN : RN < 2 ^ 31) (hsl : s + len ≤ RN) (hr : ∀ i, i < len → b (s + i) < 256 ∧ m.1 x1 (s + i) = nI (b (s + i)))
theorem s_wof44 (hW : WdR m) (hx : ∀ x, aB gSH x1 .int x = inB x RN) (hRN : RN < 2 ^ 31) (hsl : s + len ≤ RN) (hr : ∀ i, i < len → b (s + i) < 256 ∧ m.1 x1 (s + i) = nI (b (s + i))) {w : Nat} (hw : w < 8) (hl : len = wl w) (fd : Int32) (k6 : Nat → Nat → Int32 → Int32 → Int32 → Int32 → gM → Option (Int32 × gM)) :
    ∀ (k N i : Nat) , i + k = len → k + 1 < N → ((∀ j, i ≤ j → j < len → WDS.getD (7 * w + j) 0 = b (s + j)) → l_X8_wordOf_44 gSH F k6 N 62 x1 (nI s) (nI len) fd (nI w) 1 (nI i) m = b_X8_wordOf_92 gSH F k6 62 x1 (nI s) (nI len) fd (nI w) 1 m) ∧ (¬ (∀ j, i ≤ j → j < len → WDS.getD (7 * w + j) 0 = b (s + j)) → l_X8_wordOf_44 gSH F k6 N 62 x1 (nI s) (nI len) fd (nI w) 1 (nI i) m = b_X8_wordOf_92 gSH F k6 62 x1 (nI s) (nI len) fd (nI w) 0 m) := by
  obtain ⟨w1, w2, w3, w4⟩ := hW
  have hwl := wl_le w hw
  have hwb := wbg_s w hw
  have hWD : ∀ j, j < 56 → WDS.getD j 0 < 256 := by decide
  intro k
  induction k with
  | zero =>
    intro N i hi hN
    obtain ⟨N, rfl⟩ : ∃ N', N = N' + 1 := ⟨N - 1, by omega⟩
    refine ⟨fun _ => ?_, fun h => absurd (fun j h1 h2 => by omega) h⟩
    show b_X8_wordOf_44 gSH F k6 (l_X8_wordOf_44 gSH F k6 N) 62 x1 (nI s) (nI len) fd (nI w) 1 (nI i) m = _
    unfold b_X8_wordOf_44
    rw [if_neg (by decide), if_pos (nI_le (by omega) (by omega))]
  | succ k ih =>
    intro N i hi hN
    obtain ⟨N, rfl⟩ : ∃ N', N = N' + 1 := ⟨N - 1, by omega⟩
    obtain ⟨i1, i2⟩ := ih N (i + 1) (by omega) (by omega)
    have hz : l_X8_wordOf_44 gSH F k6 N 62 x1 (nI s) (nI len) fd (nI w) 0 (nI (i + 1)) m = b_X8_wordOf_92 gSH F k6 62 x1 (nI s) (nI len) fd (nI w) 0 m := by
      obtain ⟨N, rfl⟩ : ∃ N', N = N' + 1 := ⟨N - 1, by omega⟩
      show b_X8_wordOf_44 gSH F k6 (l_X8_wordOf_44 gSH F k6 N) 62 x1 (nI s) (nI len) fd (nI w) 0 (nI (i + 1)) m = _
      unfold b_X8_wordOf_44
      rw [if_pos rfl]
    have e : l_X8_wordOf_44 gSH F k6 (N + 1) 62 x1 (nI s) (nI len) fd (nI w) 1 (nI i) m = if WDS.getD (7 * w + i) 0 = b (s + i) then l_X8_wordOf_44 gSH F k6 N 62 x1 (nI s) (nI len) fd (nI w) 1 (nI (i + 1)) m else l_X8_wordOf_44 gSH F k6 N 62 x1 (nI s) (nI len) fd (nI w) 0 (nI (i + 1)) m := by
      show b_X8_wordOf_44 gSH F k6 (l_X8_wordOf_44 gSH F k6 N) 62 x1 (nI s) (nI len) fd (nI w) 1 (nI i) m = _
      unfold b_X8_wordOf_44 b_X8_wordOf_84
      have e3 : m.1 87 w = nI (wbg w) := w3 w (by omega)
      have e4 : m.1 86 (wbg w + i) = nI (WDS.getD (7 * w + i) 0) := w4 w hw i (by omega)
      rw [if_neg (by decide), if_neg (nI_ge (by omega) (by omega)), nI_add, hx, g_inI (by omega) hRN, g_ift, ob_62, g_ift, w1, g_bs, w2, g_bs, show aB gSH 87 .int (nI w) = inB (nI w) 9 from rfl, g_inI (by omega) (by decide), g_ift, nI_clamp (n := w) (by omega), e3, nI_add, show aB gSH 86 .int (nI (wbg w + i)) = inB (nI (wbg w + i)) 29 from rfl, g_inI (by omega) (by decide), g_ift, nI_clamp (by omega), nI_clamp (by omega), e4, (hr i (by omega)).2, g_nmb, g_nmb, nI_a1]
      by_cases hc : WDS.getD (7 * w + i) 0 = b (s + i)
      · rw [if_pos hc, if_pos (by rw [hc])]
      · have h1 := (hr i (by omega)).1
        have h2 := hWD (7 * w + i) (by omega)
        rw [if_neg hc, if_neg (fun e => hc ((nI_eq (by omega) (by omega)).mp e).symm)]
    rw [e]
    by_cases hc : WDS.getD (7 * w + i) 0 = b (s + i)
    · rw [if_pos hc]
      refine ⟨fun h => i1 (fun j h1 h2 => h j (by omega) h2), fun h => i2 (fun h' => h (fun j h1 h2 => ?_))⟩
      by_cases hj : j = i
      · rw [hj]; exact hc
      · exact h' j (by omega) h2
    · rw [if_neg hc, hz]
      exact ⟨fun h => absurd (h i (Nat.le_refl _) (by omega)) hc, fun _ => rfl⟩
theorem s_wordOf (hW : WdR m) (hF : 5000 ≤ F) (hx : ∀ x, aB gSH x1 .int x = inB x RN) (hRN : RN < 2 ^ 31) (hsl : s + len ≤ RN) (hr : ∀ i, i < len → b (s + i) < 256 ∧ m.1 x1 (s + i) = nI (b (s + i))) : f_X8_wordOf gSH F 62 x1 (nI s) (nI len) m = some (nI (rT (wordK b s len)), m) := by
  have key : ∀ (k N w f : Nat), w + k = 8 → k < N → l_X8_wordOf_6 gSH F N 62 x1 (nI s) (nI len) (nI f) (nI w) m = some (nI (wfF b s len k w f), m) := by
    obtain ⟨w1, w2, w3, w4⟩ := hW
    intro k
    induction k with
    | zero =>
      intro N w f hw hN
      obtain ⟨N, rfl⟩ : ∃ N', N = N' + 1 := ⟨N - 1, by omega⟩
      show b_X8_wordOf_6 gSH F (l_X8_wordOf_6 gSH F N) 62 x1 (nI s) (nI len) (nI f) (nI w) m = _
      unfold b_X8_wordOf_6
      rw [if_pos (show (8 : Int32) ≤ nI w from nI_le (a := 8) (by omega) (by omega))]
      rfl
    | succ k ih =>
      intro N w f hw hN
      obtain ⟨N, rfl⟩ : ∃ N', N = N' + 1 := ⟨N - 1, by omega⟩
      have hwb := wbg_s w (by omega)
      have hwl := wl_le w (by omega)
      have e3 : m.1 87 w = nI (wbg w) := w3 w (by omega)
      have e4 : m.1 87 (w + 1) = nI (wbg (w + 1)) := w3 (w + 1) (by omega)
      have fin : ∀ q : Bool, isWb b s len w = q → b_X8_wordOf_92 gSH F (l_X8_wordOf_6 gSH F N) 62 x1 (nI s) (nI len) (nI f) (nI w) (b2 q) m = some (nI (wfF b s len (k + 1) w f), m) := by
        intro q hq
        unfold b_X8_wordOf_92 b_X8_wordOf_107 wfF
        rw [g_nmb, g_nmb, nI_a1, hq, show (10 : Int32) = nI 10 from rfl, nI_add, ih N (w + 1) f (by omega) (by omega), ih N (w + 1) (10 + w) (by omega) (by omega)]
        cases q
        · rw [if_pos (by decide), if_neg (by decide)]
        · rw [if_neg (by decide), if_pos rfl]
      show b_X8_wordOf_6 gSH F (l_X8_wordOf_6 gSH F N) 62 x1 (nI s) (nI len) (nI f) (nI w) m = _
      unfold b_X8_wordOf_6 b_X8_wordOf_39
      rw [if_neg (show ¬ (8 : Int32) ≤ nI w from nI_ge (b := 8) (by omega) (by decide)), ob_62, g_ift, w2, g_bs, nI_1, show aB gSH 87 .int (nI (w + 1)) = inB (nI (w + 1)) 9 from rfl, g_inI (by omega) (by decide), g_ift, g_bs, show aB gSH 87 .int (nI w) = inB (nI w) 9 from rfl, g_inI (by omega) (by decide), g_ift, nI_clamp (by omega), nI_clamp (by omega), e3, e4, pk_sub (by omega), show wbg (w + 1) - wbg w = wl w by omega]
      by_cases hl : len = wl w
      · rw [if_pos (by rw [hl])]
        obtain ⟨l1, l2⟩ := s_wof44 (F := F) ⟨w1, w2, w3, w4⟩ hx hRN hsl hr (by omega) hl (nI f) (l_X8_wordOf_6 gSH F N) len F 0 (by omega) (by omega)
        by_cases ha : ∀ j, 0 ≤ j → j < len → WDS.getD (7 * w + j) 0 = b (s + j)
        · rw [show (0 : Int32) = nI 0 from rfl, l1 ha]
          exact fin true (isWb_iff.mpr ⟨hl, fun i hi => ha i (Nat.zero_le _) hi⟩)
        · rw [show (0 : Int32) = nI 0 from rfl, l2 ha]
          refine fin false ?_
          rw [Bool.eq_false_iff]
          intro h
          exact ha (fun j _ hj => (isWb_iff.mp h).2 j hj)
      · rw [if_neg (fun e => hl ((nI_eq (by omega) (by omega)).mp e).symm)]
        obtain ⟨F', rfl⟩ : ∃ F', F = F' + 1 := ⟨F - 1, by omega⟩
        show b_X8_wordOf_44 gSH (F' + 1) (l_X8_wordOf_6 gSH (F' + 1) N) (l_X8_wordOf_44 gSH (F' + 1) (l_X8_wordOf_6 gSH (F' + 1) N) F') 62 x1 (nI s) (nI len) (nI f) (nI w) 0 0 m = _
        unfold b_X8_wordOf_44
        rw [if_pos rfl]
        refine fin false ?_
        rw [Bool.eq_false_iff]
        intro h
        exact hl (isWb_iff.mp h).1
  unfold f_X8_wordOf
  rw [← wf_rT]
  exact key 8 F 0 1 rfl (by omega)
end WOF
