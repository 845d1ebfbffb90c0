/-! THE CLASS'S TOKENS -/
def sgn (c : Nat) : Bool := [123, 125, 40, 41, 61, 43, 46, 44, 59].contains c
/-- where the token from p on begins; its length; its kind -/
def tS (b : Nat → Nat) (n p : Nat) : Nat := runP cBl b (n - p) p
def tL (b : Nat → Nat) (n p : Nat) : Nat := if tS b n p < n then (if cLt (nI (b (tS b n p))) = true then runP cIn b (n - tS b n p) (tS b n p) - tS b n p else if cDg (nI (b (tS b n p))) = true then runP cDg b (n - tS b n p) (tS b n p) - tS b n p else 1) else 1
def tK (b : Nat → Nat) (n p : Nat) : Nat := if tS b n p < n then (if cLt (nI (b (tS b n p))) = true then (if 12 < tL b n p then 267 else wordK b (tS b n p) (tL b n p)) else if cDg (nI (b (tS b n p))) = true then (if 9 < tL b n p then 267 else 265) else if sgn (b (tS b n p)) = true then b (tS b n p) else 267) else 266
theorem tS_le {b : Nat → Nat} {n p : Nat} (hp : p ≤ n) : p ≤ tS b n p ∧ tS b n p ≤ n := by
  have := runP_ge cBl b (n - p) p
  unfold tS
  omega
theorem cIn_32 {c : Nat} (hc : c < 256) (h : cIn (nI c) = true) : c ≠ 32 := by
  intro e
  subst e
  exact absurd h (by decide)
theorem cIn_m1 : cIn (-1) = false := by decide
theorem cDg_m1 : cDg (-1) = false := by decide
def sgL : List Int32 := [123, 125, 40, 41, 61, 43, 46, 44, 59]
theorem sg_sB : ∀ i, i < 9 → sB 1000101 i = sgL.getD i 0 := by decide
theorem sg_c : ∀ c, c < 256 → (((nI c).toUInt32 % 65536).toInt32 = nI c ∧ (sgn c = true ↔ ∃ i, i < 9 ∧ sgL.getD i 0 = (nI c).toInt8.toInt32)) := by decide +kernel
theorem s_indexOfL {m : gM} {F : Nat} {v : Int32} : ∀ (k N i : Nat), i + k = 9 → k < N → ∃ r : Int32, l_J1_indexOfChar_4cfef_7 gSH F N 1000101 (nI 9) v (nI i) m = some (r, m) ∧ (r < 0 ↔ ¬ ∃ j, i ≤ j ∧ j < 9 ∧ sgL.getD j 0 = v) := by
  intro k
  induction k with
  | zero =>
    intro N i hi hN
    obtain ⟨N, rfl⟩ : ∃ N', N = N' + 1 := ⟨N - 1, by omega⟩
    refine ⟨-1, ?_, ⟨fun _ ⟨j, h1, h2, _⟩ => by omega, fun _ => by decide⟩⟩
    show b_J1_indexOfChar_4cfef_7 gSH F (l_J1_indexOfChar_4cfef_7 gSH F N) 1000101 (nI 9) v (nI i) m = _
    unfold b_J1_indexOfChar_4cfef_7
    rw [if_pos (nI_le (by omega) (by omega))]
  | succ k ih =>
    intro N i hi hN
    obtain ⟨N, rfl⟩ : ∃ N', N = N' + 1 := ⟨N - 1, by omega⟩
    have e : l_J1_indexOfChar_4cfef_7 gSH F (N + 1) 1000101 (nI 9) v (nI i) m = if sgL.getD i 0 = v then some (nI i, m) else l_J1_indexOfChar_4cfef_7 gSH F N 1000101 (nI 9) v (nI (i + 1)) m := by
      show b_J1_indexOfChar_4cfef_7 gSH F (l_J1_indexOfChar_4cfef_7 gSH F N) 1000101 (nI 9) v (nI i) m = _
      unfold b_J1_indexOfChar_4cfef_7
      rw [if_neg (nI_ge (by omega) (by omega)), show isA 1000101 = true by decide, g_ift, show sL 1000101 = 9 by decide, g_inI (by omega) (by decide), g_ift, nI_clamp (by omega), sg_sB i (by omega), g_nmb, nI_a1]
    rw [e]
    by_cases hc : sgL.getD i 0 = v
    · rw [if_pos hc]
      refine ⟨nI i, rfl, ⟨fun h => absurd h (nI_pos (by omega)), fun h => absurd ⟨i, Nat.le_refl _, by omega, hc⟩ h⟩⟩
    · rw [if_neg hc]
      obtain ⟨r, h1, h2⟩ := ih N (i + 1) (by omega) (by omega)
      refine ⟨r, h1, h2.trans ⟨fun h ⟨j, a, b, c⟩ => h ⟨j, ?_, b, c⟩, fun h ⟨j, a, b, c⟩ => h ⟨j, by omega, b, c⟩⟩⟩
      by_cases hj : j = i
      · subst hj; exact absurd c hc
      · omega
theorem s_indexOf {m : gM} {F c : Nat} (hc : c < 256) (hF : 5000 ≤ F) : ∃ r : Int32, f_J0_indexOf_0f7a4 gSH F 1000001 (((nI c).toUInt32 % 65536).toInt32) m = some (r, m) ∧ (r < 0 ↔ sgn c = false) := by
  obtain ⟨e1, e2⟩ := sg_c c hc
  obtain ⟨r, h1, h2⟩ := s_indexOfL (m := m) (F := F) (v := (nI c).toInt8.toInt32) 9 F 0 (by omega) (by omega)
  refine ⟨r, ?_, ?_⟩
  · rw [e1]
    have c1 : f_J1_canEncode_9a6ad gSH F (nI c) m = some (1, m) := by
      unfold f_J1_canEncode_9a6ad
      rw [if_neg (nI_pos (by omega)), if_neg (show ¬ (255 : Int32) < nI c from nI_nlt (a := 255) (by omega) (by decide))]
    have c2 : f_J0_length_8abf5 gSH F 1000001 m = some (nI 9, m) := by
      unfold f_J0_length_8abf5 f_J0_coder_7d493
      rw [show isS 1000001 = true by decide, g_ift, show isA (1000001 + 100) = true by decide, g_ift, if_neg (by decide), g_ift, show bB 0 = true by decide, g_ift, g_bs, g_nmb, g_nmb]
      show some (Int32.ofNat (sL (1000001 + 100)) >>> ((0 : Int32) &&& 31), m) = _
      rw [show Int32.ofNat (sL (1000001 + 100)) >>> ((0 : Int32) &&& 31) = nI 9 by decide]
    have c3 : f_J1_indexOf_4cfef gSH F (1000001 + 100) (nI c) 0 (nI 9) m = some (r, m) := by
      unfold f_J1_indexOf_4cfef f_J1_indexOfChar_4cfef
      rw [c1, g_bs, g_nmb, g_nmb, if_neg (show ¬ (1 : Int32) = 0 by decide), g_nmb, show isA (1000001 + 100) = true by decide, g_ift, g_nmb, if_neg (show ¬ (0 : Int32) < 0 by decide), if_neg (show ¬ Int32.ofNat (sL (1000001 + 100)) < nI 9 by decide), if_pos (show (0 : Int32) < nI 9 by decide), g_nmb]
      rw [show l_J1_indexOfChar_4cfef_7 gSH F F (1000001 + 100) (nI 9) ((nI c).toInt8.toInt32) 0 (1, m).snd = l_J1_indexOfChar_4cfef_7 gSH F F 1000101 (nI 9) ((nI c).toInt8.toInt32) (nI 0) m from rfl, h1, g_bs, g_nmb, g_nmb]
    unfold f_J0_indexOf_0f7a4 f_J0_indexOf_7cf53
    rw [show isS 1000001 = true by decide, g_ift, g_ift, s_isLatin F 1000001 (by decide), g_bs, g_nmb, g_nmb, if_neg (show ¬ (1 : Int32) = 0 by decide), c2, g_bs, g_nmb, g_nmb, c3, g_bs, g_nmb, g_nmb, g_bs, g_nmb, g_nmb]
  · rw [h2, Bool.eq_false_iff, Ne, e2]
    exact ⟨fun h ⟨j, a, c⟩ => h ⟨j, Nat.zero_le _, a, c⟩, fun h ⟨j, _, b, c⟩ => h ⟨j, b, c⟩⟩
/-- what the class's token cell holds after a token -/
def TokC (m : gM) (b : Nat → Nat) (n p : Nat) : Prop := m.1 56 0 = nI (tK b n p) ∧ m.1 56 1 = nI (tS b n p) ∧ m.1 56 2 = nI (tL b n p) ∧ (tK b n p = 264 → m.2.1 56 3 = nmH b (tS b n p) (tL b n p) ∧ m.2.1 56 4 = nmL b (tS b n p) (tL b n p))
theorem TapC.keep {m m' : gM} {t n : Nat} {b : Nat → Nat} (h : TapC m t b n) (hk : gKeep (fun k => k ≠ 56) m m') : TapC m' t b n := by
  obtain ⟨ht, hr, hs, hle, hb⟩ := h
  have k1 := hk t (by omega)
  have k2 := hk (t + 1) (by omega)
  exact ⟨ht, by rw [k1.2.2]; exact hr, by rw [k1.1]; exact hs, hle, fun i hi => ⟨(hb i hi).1, by rw [k2.1]; exact (hb i hi).2⟩⟩
theorem s_nameL {t n F st : Nat} {b : Nat → Nat} (hst : st ≤ n) : ∀ (k N i : Nat) (m : gM), TapC m t b n → m.1 56 1 = nI st → st + i + k = n → k < N → m.2.1 56 3 = nmH b st i → m.2.1 56 4 = nmL b st i → (∀ j, j < i → cIn (nI (b (st + j))) = true) →
    ∃ m', l_X6_takeName_12 gSH F N 56 t (nI i) m = b_X6_takeName_56 gSH F 56 (nI (runP cIn b k (st + i) - st)) m' ∧ gKeep (fun k => k ≠ 56) m m' ∧ m'.1 = m.1 ∧ m'.2.2 = m.2.2 ∧ m'.2.1 56 3 = nmH b st (runP cIn b k (st + i) - st) ∧ m'.2.1 56 4 = nmL b st (runP cIn b k (st + i) - st) := by
  intro k
  induction k with
  | zero =>
    intro N i m h hs hi hN hH hL _
    have hle := h.2.2.2.1
    obtain ⟨o1, -⟩ := ob_tape h.1
    obtain ⟨N, rfl⟩ : ∃ N', N = N' + 1 := ⟨N - 1, by omega⟩
    have e0 : runP cIn b 0 (st + i) - st = i := by
      show st + i - st = i
      omega
    rw [e0]
    refine ⟨m, ?_, gKeep.refl m, rfl, rfl, hH, hL⟩
    show b_X6_takeName_12 gSH F (l_X6_takeName_12 gSH F N) 56 t (nI i) m = _
    unfold b_X6_takeName_12
    by_cases h4 : 4000 ≤ i
    · rw [if_pos (show (4000 : Int32) ≤ nI i from nI_le (a := 4000) h4 (by omega))]
    · rw [if_neg (show ¬ (4000 : Int32) ≤ nI i from nI_ge (b := 4000) (by omega) (by decide)), ob_56, o1, g_ift, g_ift, hs, nI_add, s_at h (by omega), g_bs, g_nmb, g_nmb, s_isInName, g_bs, g_nmb, g_nmb, sAt_out (by omega), cIn_m1, if_pos (show b2 false = 0 by decide)]
  | succ k ih =>
    intro N i m h hs hi hN hH hL hall
    have hle := h.2.2.2.1
    have hb := h.2.2.2.2
    obtain ⟨o1, -⟩ := ob_tape h.1
    obtain ⟨N, rfl⟩ : ∃ N', N = N' + 1 := ⟨N - 1, by omega⟩
    by_cases hc : cIn (nI (b (st + i))) = true
    · obtain ⟨m1, p1, p2, p3, p4, p5, p6⟩ := s_pack (m := m) (F := F) (i := i) (v := b (st + i)) (b := b) (s := st) (fun j hj => (hb (st + j) (by omega)).1) (by omega) rfl hH hL
      have k1 : gKeep (fun k => k ≠ 56) m m1 := fun c hc => ⟨by rw [p4], p6 c hc, by rw [p5]⟩
      obtain ⟨m2, q1, q2, q3, q4, q5, q6⟩ := ih N (i + 1) m1 (h.keep k1) (by rw [p4]; exact hs) (by omega) (by omega) p2 p3 (fun j hj => by
        by_cases e : j = i
        · rw [e]; exact hc
        · exact hall j (by omega))
      have er : runP cIn b (k + 1) (st + i) = runP cIn b k (st + (i + 1)) := by
        show (if cIn (nI (b (st + i))) = true then runP cIn b k (st + i + 1) else st + i) = _
        rw [if_pos hc]
        rfl
      rw [er]
      refine ⟨m2, ?_, k1.trans q2, by rw [q3, p4], by rw [q4, p5], q5, q6⟩
      rw [← q1]
      show b_X6_takeName_12 gSH F (l_X6_takeName_12 gSH F N) 56 t (nI i) m = _
      unfold b_X6_takeName_12
      rw [if_neg (show ¬ (4000 : Int32) ≤ nI i from nI_ge (b := 4000) (by omega) (by decide)), ob_56, o1, g_ift, g_ift, hs, nI_add, s_at h (by omega), g_bs, g_nmb, g_nmb, s_isInName, g_bs, g_nmb, g_nmb, sAt_in (by omega), hc, if_neg (show ¬ b2 true = 0 by decide), hs, nI_add, s_at h (by omega), g_bs, g_nmb, g_nmb, sAt_in (by omega), p1, g_bs, g_nmb, nI_a1]
    · have er : runP cIn b (k + 1) (st + i) - st = i := by
        show (if cIn (nI (b (st + i))) = true then runP cIn b k (st + i + 1) else st + i) - st = _
        rw [if_neg hc]
        omega
      rw [er]
      refine ⟨m, ?_, gKeep.refl m, rfl, rfl, hH, hL⟩
      show b_X6_takeName_12 gSH F (l_X6_takeName_12 gSH F N) 56 t (nI i) m = _
      unfold b_X6_takeName_12
      rw [if_neg (show ¬ (4000 : Int32) ≤ nI i from nI_ge (b := 4000) (by omega) (by decide)), ob_56, o1, g_ift, g_ift, hs, nI_add, s_at h (by omega), g_bs, g_nmb, g_nmb, s_isInName, g_bs, g_nmb, g_nmb, sAt_in (by omega), Bool.eq_false_iff.mpr hc, if_pos (show b2 false = 0 by decide)]
theorem s_advance {m : gM} {t n F st ln : Nat} {b : Nat → Nat} (h : TapC m t b n) (hF : 5000 ≤ F) (h1 : m.1 56 1 = nI st) (h2 : m.1 56 2 = nI ln) (hp : st + ln ≤ n) :
    ∃ m', f_X6_advance gSH F 56 t m = some m' ∧ TokC m' b n (st + ln) ∧ gKeep (fun k => k ≠ 56) m m' ∧ m'.2.2 = m.2.2 := by
  have hle := h.2.2.2.1
  have hb := h.2.2.2.2
  obtain ⟨o1, -⟩ := ob_tape h.1
  have hs := tS_le (b := b) hp
  unfold f_X6_advance
  rw [ob_56, g_ift, h1, h2, nI_add, s_behindBlanks h hp hF, g_bs, g_nmb, g_nmb, g_nmb]
  generalize em1 : gsI (nI (runP cBl b (n - (st + ln)) (st + ln)), m).2 56 1 (nI (runP cBl b (n - (st + ln)) (st + ln)), m).1 = m1
  have k1 : gKeep (fun k => k ≠ 56) m m1 := by rw [← em1]; exact gKeep.i (by simp)
  have a1 : m1.1 56 1 = nI (tS b n (st + ln)) := by rw [← em1, gI_1, if_pos ⟨rfl, rfl⟩]; rfl
  have r1 : m1.2.2 = m.2.2 := by rw [← em1]; rfl
  rw [o1, g_ift, a1, s_at (h.keep k1) (by omega), g_bs, g_nmb, g_nmb, g_nmb]
  generalize em2 : gsI (sAt b n (tS b n (st + ln)), m1).2 56 2 1 = m2
  have k2 : gKeep (fun k => k ≠ 56) m m2 := by rw [← em2]; exact k1.trans (gKeep.i (by simp))
  have a2 : m2.1 56 1 = nI (tS b n (st + ln)) := by rw [← em2, gI_1, if_neg (by decide)]; exact a1
  have b2' : m2.1 56 2 = 1 := by rw [← em2, gI_1, if_pos ⟨rfl, rfl⟩]
  have r2 : m2.2.2 = m.2.2 := by rw [← em2]; exact r1
  show ∃ m', (if sAt b n (tS b n (st + ln)) = -1 then _ else _) = some m' ∧ _
  by_cases hn : tS b n (st + ln) < n
  · obtain ⟨hbb, -⟩ := hb _ hn
    have hne : ¬ nI (b (tS b n (st + ln))) = -1 := by
      intro e
      have e2 := congrArg Int32.toInt e
      rw [nI_toInt (by omega)] at e2
      have : (-1 : Int32).toInt = -1 := by decide
      omega
    rw [sAt_in hn, if_neg hne, s_beginsName, g_bs, g_nmb, g_nmb]
    cases hlt : cLt (nI (b (tS b n (st + ln))))
    · rw [if_pos (show b2 false = 0 by decide), s_isDigit, g_bs, g_nmb, g_nmb]
      cases hdg : cDg (nI (b (tS b n (st + ln))))
      · rw [if_pos (show b2 false = 0 by decide), show isS 1000001 = true by decide, g_ift]
        obtain ⟨r, i1, i2⟩ := s_indexOf (m := m2) (F := F) hbb hF
        rw [i1, g_bs, g_nmb, g_nmb]
        have eL : tL b n (st + ln) = 1 := by
          unfold tL
          rw [if_pos hn, hlt, hdg]
          rfl
        have fin : ∀ v : Nat, tK b n (st + ln) = v → v ≠ 264 → ∃ m', b_X6_advance_94 gSH F (nI v) 56 m2 = some m' ∧ TokC m' b n (st + ln) ∧ gKeep (fun k => k ≠ 56) m m' ∧ m'.2.2 = m.2.2 := by
          intro v ev hv
          unfold b_X6_advance_94
          rw [ob_56, g_ift, g_nmb]
          refine ⟨_, rfl, ⟨?_, ?_, ?_, fun h => absurd (ev.symm.trans h) hv⟩, k2.trans (gKeep.i (by simp)), r2⟩
          · rw [gI_1, if_pos ⟨rfl, rfl⟩, ev]
          · rw [gI_1, if_neg (by decide)]; exact a2
          · rw [gI_1, if_neg (by decide), eL]; exact b2'
        cases hsg : sgn (b (tS b n (st + ln)))
        · rw [if_pos (i2.mpr hsg)]
          refine fin 267 ?_ (by decide)
          unfold tK
          rw [if_pos hn, hlt, hdg, hsg]
          rfl
        · rw [if_neg (fun h => by rw [i2.mp h] at hsg; cases hsg)]
          refine fin (b (tS b n (st + ln))) ?_ (by omega)
          unfold tK
          rw [if_pos hn, hlt, hdg, hsg]
          rfl
      · rw [if_neg (show ¬ b2 true = 0 by decide)]
        unfold f_X6_takeNumber
        have q := s_digits (F := F) (h.keep k2) a2 (Nat.le_of_lt hn) (n - tS b n (st + ln)) F 0 (by omega) (by omega)
        have eL : tL b n (st + ln) = runP cDg b (n - tS b n (st + ln)) (tS b n (st + ln) + 0) - tS b n (st + ln) := by
          unfold tL
          rw [if_pos hn, hlt, hdg]
          rfl
        have hlen : tL b n (st + ln) ≤ 4000 := by
          rw [eL]
          have := runP_ge cDg b (n - tS b n (st + ln)) (tS b n (st + ln) + 0)
          omega
        rw [← eL] at q
        show ∃ m', (l_X6_takeNumber_2 gSH F F 56 t (nI 0) m2).bind _ = some m' ∧ _
        rw [q]
        unfold b_X6_takeNumber_31
        rw [ob_56, g_ift, g_nmb]
        have fin : ∀ v : Nat, tK b n (st + ln) = v → v ≠ 264 → ∃ m', (b_X6_takeNumber_55 gSH F (nI v) 56 (gsI m2 56 2 (nI (tL b n (st + ln))))).bind (fun m25 => some m25) = some m' ∧ TokC m' b n (st + ln) ∧ gKeep (fun k => k ≠ 56) m m' ∧ m'.2.2 = m.2.2 := by
          intro v ev hv
          unfold b_X6_takeNumber_55
          rw [ob_56, g_ift, g_nmb, g_bs]
          refine ⟨_, rfl, ⟨?_, ?_, ?_, fun h => absurd (ev.symm.trans h) hv⟩, k2.trans ((gKeep.i (by simp)).trans (gKeep.i (by simp))), r2⟩
          · rw [gI_1, if_pos ⟨rfl, rfl⟩, ev]
          · rw [gI_1, if_neg (by decide), gI_1, if_neg (by decide)]; exact a2
          · rw [gI_1, if_neg (by decide), gI_1, if_pos ⟨rfl, rfl⟩]
        rw [show (gsI m2 56 2 (nI (tL b n (st + ln)))).1 56 2 = nI (tL b n (st + ln)) by rw [gI_1, if_pos ⟨rfl, rfl⟩]]
        by_cases h9 : 9 < tL b n (st + ln)
        · rw [if_neg (show ¬ nI (tL b n (st + ln)) ≤ 9 from nI_ge (a := 9) h9 (by omega))]
          refine fin 267 ?_ (by decide)
          unfold tK
          rw [if_pos hn, hlt, hdg, if_neg (by decide), if_pos rfl, if_pos h9]
        · rw [if_pos (show nI (tL b n (st + ln)) ≤ 9 from nI_le (b := 9) (by omega) (by decide))]
          refine fin 265 ?_ (by decide)
          unfold tK
          rw [if_pos hn, hlt, hdg, if_neg (by decide), if_pos rfl, if_neg h9]
    · rw [if_neg (show ¬ b2 true = 0 by decide)]
      unfold f_X6_takeName
      rw [ob_56, g_ift, g_nmb, g_nmb]
      generalize em3 : gsL (gsL m2 56 3 0) 56 4 0 = m3
      have k3 : gKeep (fun k => k ≠ 56) m m3 := by rw [← em3]; exact k2.trans ((gKeep.l (by simp)).trans (gKeep.l (by simp)))
      have a3 : m3.1 = m2.1 := by rw [← em3]; rfl
      have r3 : m3.2.2 = m.2.2 := by rw [← em3]; exact r2
      have z0 : pkv (nmB b (tS b n (st + ln)) 0) = 0 := by simp [pkv, nmB]
      have z1 : pkv (fun i => nmB b (tS b n (st + ln)) 0 (i + 6)) = 0 := by simp [pkv, nmB]
      have H3 : m3.2.1 56 3 = nmH b (tS b n (st + ln)) 0 := by
        rw [← em3, gL_2, if_neg (by decide), gL_2, if_pos ⟨rfl, rfl⟩]
        unfold nmH
        rw [z0]
        rfl
      have L3 : m3.2.1 56 4 = nmL b (tS b n (st + ln)) 0 := by
        rw [← em3, gL_2, if_pos ⟨rfl, rfl⟩]
        unfold nmL
        rw [z1]
        rfl
      obtain ⟨m4, q1, q2, q3, q4, q5, q6⟩ := s_nameL (F := F) (Nat.le_of_lt hn) (n - tS b n (st + ln)) F 0 m3 (h.keep k3) (by rw [a3]; exact a2) (by omega) (by omega) H3 L3 (fun j hj => by omega)
      have eL : tL b n (st + ln) = runP cIn b (n - tS b n (st + ln)) (tS b n (st + ln) + 0) - tS b n (st + ln) := by
        unfold tL
        rw [if_pos hn, hlt]
        rfl
      have hge := runP_ge cIn b (n - tS b n (st + ln)) (tS b n (st + ln) + 0)
      have hlen : tL b n (st + ln) ≤ 4000 := by
        rw [eL]
        omega
      have hall := runP_all cIn b (n - tS b n (st + ln)) (tS b n (st + ln) + 0)
      rw [← eL] at q1 q5 q6
      show ∃ m', (l_X6_takeName_12 gSH F F 56 t (nI 0) m3).bind _ = some m' ∧ _
      rw [q1]
      unfold b_X6_takeName_56
      rw [ob_56, g_ift, g_nmb]
      have k4 : gKeep (fun k => k ≠ 56) m (gsI m4 56 2 (nI (tL b n (st + ln)))) := k3.trans (q2.trans (gKeep.i (by simp)))
      have e5 : (gsI m4 56 2 (nI (tL b n (st + ln)))).1 56 2 = nI (tL b n (st + ln)) := by rw [gI_1, if_pos ⟨rfl, rfl⟩]
      have a5 : (gsI m4 56 2 (nI (tL b n (st + ln)))).1 56 1 = nI (tS b n (st + ln)) := by
        rw [gI_1, if_neg (by decide), q3, a3]
        exact a2
      have fin : ∀ v : Nat, tK b n (st + ln) = v → ∃ m', (b_X6_takeName_81 gSH F (nI v) 56 (gsI m4 56 2 (nI (tL b n (st + ln))))).bind (fun m27 => some m27) = some m' ∧ TokC m' b n (st + ln) ∧ gKeep (fun k => k ≠ 56) m m' ∧ m'.2.2 = m.2.2 := by
        intro v ev
        unfold b_X6_takeName_81
        rw [ob_56, g_ift, g_nmb, g_bs]
        refine ⟨_, rfl, ⟨?_, ?_, ?_, fun h => ⟨q5, q6⟩⟩, k4.trans (gKeep.i (by simp)), ?_⟩
        · rw [gI_1, if_pos ⟨rfl, rfl⟩, ev]
        · rw [gI_1, if_neg (by decide)]; exact a5
        · rw [gI_1, if_neg (by decide)]; exact e5
        · show m4.2.2 = _
          rw [q4, r3]
      rw [e5]
      by_cases h12 : 12 < tL b n (st + ln)
      · rw [if_neg (show ¬ nI (tL b n (st + ln)) ≤ 12 from nI_ge (a := 12) h12 (by omega))]
        refine fin 267 ?_
        unfold tK
        rw [if_pos hn, hlt, if_pos rfl, if_pos h12]
      · rw [if_pos (show nI (tL b n (st + ln)) ≤ 12 from nI_le (b := 12) (by omega) (by decide)), s_wordOrName (s := tS b n (st + ln)) (b := b) (fun j hj => ?_) (by omega) hF e5 q5 q6, g_bs, g_nmb, g_nmb]
        · refine fin _ ?_
          unfold tK
          rw [if_pos hn, hlt, if_pos rfl, if_neg h12]
        · have hj1 : tS b n (st + ln) + j < n := by omega
          have hc := (hb (tS b n (st + ln) + j) hj1).1
          exact ⟨hc, cIn_32 hc (hall _ (by omega) (by omega))⟩
  · rw [sAt_out hn, if_pos rfl, g_nmb]
    refine ⟨_, rfl, ⟨?_, ?_, ?_, fun h => ?_⟩, k2.trans (gKeep.i (by simp)), r2⟩
    · rw [gI_1, if_pos ⟨rfl, rfl⟩]
      unfold tK
      rw [if_neg hn]
      rfl
    · rw [gI_1, if_neg (by decide)]; exact a2
    · rw [gI_1, if_neg (by decide)]
      unfold tL
      rw [if_neg hn]
      exact b2'
    · unfold tK at h
      rw [if_neg hn] at h
      cases h
