/-! THE REFERENCE'S QUESTIONS: imports and locals, run to their end -/
section QST
variable {q : Nat → Nat → Nat} {nk : Nat → Nat → Bool} {F r s nd : Nat} {σ S : Nat → Bool} {A : Nat → Prop}
theorem q_outer {Q : Nat} {lo hi sc : Int64} (hq : mQ q) (hF : 5000 ≤ F) (hr : r < q 0 2) (hs : s < q 0 0) {MV AL : Nat → Nat → Prop} {ndV ndL tV tL : Nat} (hMd : ∀ r' d, MV r' d → d < q 0 1) (hV : ∀ r', r' < q 0 2 → q 8 r' = s + 1 → σ r' = false → VSp q nk (mI σ r') r' ndV tV (MV r')) (hL : (∃ r', r' < q 0 2 ∧ q 8 r' = s + 1) → ∀ u, u < q 0 0 → q 2 u ≠ 6 → LSp q nk σ (mI S s) r u ndL tL (AL u)) (n1 : ndV + 1 ≤ nd) (n2 : ndL + 1 ≤ nd) (n0 : 2 ≤ nd) (g : SgR lo hi σ) (gs : ScR sc S) : ∀ (k nx : Nat) (m : gM), nx + k = q 0 2 → qOk q nk Q nd m → qAt m Q 1 1 s r lo hi sc → m.1 103 Q = nI nx →
    ∃ m', qE (k * (tV + 64 * (tL + 2) + 4) + 1) Q m m' (fun d => bm (m.2.1 101 Q) d = true ∨ ∃ r' u, nx ≤ r' ∧ r' < q 0 2 ∧ q 8 r' = s + 1 ∧ σ r' = false ∧ (∃ d', MV r' d' ∧ q 5 d' = u + 1) ∧ AL u d) := by
  have l2 := hq.1.1.2.2.2.1
  have l1 := hq.1.1.2.2.1
  intro k
  induction k using Nat.strongRecOn with
  | ind k ih =>
  intro nx m hk ok a hx
  obtain ⟨hQS, hQn, h67, h64⟩ := id ok
  obtain ⟨y, y1, y2, y3, y4, y5⟩ := i_search hQS hq.1 (show Q < 8000 by omega) hs g a (q 0 2 - nx) nx (by omega)
  obtain ⟨-, -, -, -, -, -, p54, p55, p56, p57, p58, p59, p60, p61, p62, p63⟩ := id hQS
  have cl : (nI Q).toNatClampNeg = Q := nI_clamp (by omega)
  have i8 : inB (nI Q) 8000 = true := g_inI (by omega) (by decide)
  have e0 : ∀ F, 5000 ≤ F → f_X8_imports gSH F 62 (nI Q) m = b_X8_imports_127 gSH F 62 (nI Q) (nI y) m := by
    intro F hF
    rw [i_eq hQS (by omega) a, if_neg (by decide), if_pos rfl, hx, y3 F F (by omega)]
  by_cases hy : y = q 0 2
  · have e : ∀ F, 5000 ≤ F → f_X8_imports gSH F 62 (nI Q) m = some (gsI (gsL m 62 65 (m.2.1 101 Q)) 62 64 (nI Q)) := by
      intro F hF
      rw [e0 F hF]
      unfold b_X8_imports_127
      rw [ob_62, g_ift, hQS.1.2.2, hy, if_pos rfl, p61, g_bs, show aB gSH 101 .long (nI Q) = true from i8, g_ift, cl, s_says h64, g_bs]
    refine ⟨gsI (gsL m 62 65 (m.2.1 101 Q)) 62 64 (nI Q), (q_step hQS (by omega) h64 (Or.inr (Or.inl ⟨a.1, e⟩))).mono (by omega), (KB.l (by omega)).trans (KB.i (by omega)), ?_, fun d => ?_, ?_, ?_⟩
    · simp [gI_1]
    · simp only [gI_2, gL_2]
      constructor
      · intro h
        left
        simpa using h
      · rintro (h | ⟨r', u, h1, h2, h3, h4, -⟩)
        · simpa using h
        · exact absurd ⟨h3, h4⟩ (y4 r' h1 (by omega))
    · simp [gI_1, gL_1]
    · simp [gI_1, gL_1]
  obtain ⟨w8, wσ⟩ := y5 (by omega)
  generalize hm1 : gsI (gsI m 103 Q (nI (y + 1))) 95 Q 2 = m1
  have k1 : KB Q m m1 := by
    rw [← hm1]
    exact (KB.i (by omega)).trans (KB.i (by omega))
  have a1 : qAt m1 Q 1 2 s r lo hi sc := by
    rw [← hm1]
    exact (a.n _).st 2
  have Q1 := hQS.k k1
  have f64 : m1.1 62 64 = nI (Q + 1) := by rw [← hm1]; simpa [gI_1] using h64
  obtain ⟨m2, e1, e2, e3, e5, e6, e7, e8⟩ := s_askMeans (lo := lo) (hi := hi) Q1 hq.1 (show Q + 1 < 8000 by omega) f64 (show y < q 0 2 by omega)
  have e : ∀ F, 5000 ≤ F → f_X8_imports gSH F 62 (nI Q) m = some m2 := by
    intro F hF
    rw [e0 F hF]
    unfold b_X8_imports_127
    rw [ob_62, g_ift, hQS.1.2.2, if_neg (fun z => hy ((k_lit (by omega) (by omega)).mp z)), p63, g_bs, show aB gSH 103 .int (nI Q) = true from i8, g_ift, nI_1, g_nmb, cl, show (gsI m 103 Q (nI (y + 1))).2.2 62 55 = some 95 from p55, g_bs, show aB gSH 95 .int (nI Q) = true from i8, g_ift, g_nmb, hm1]
    obtain ⟨-, -, -, -, -, w6, w54, w55, w56, w57, w58, w59, w60, w61, w62, w63⟩ := id Q1
    rw [w58, g_bs, show aB gSH 98 .long (nI Q) = true from i8, g_ift, w59, g_bs, show aB gSH 99 .long (nI Q) = true from i8, g_ift, a1.2.2.2.2.1, a1.2.2.2.2.2.1, e1, g_bs]
  have r1 : qRn 1 m m2 := q_step hQS (by omega) h64 (Or.inr (Or.inl ⟨a.1, e⟩))
  have k12 : KB Q m m2 := k1.trans (e5.mono (by omega))
  have u66 : m2.1 62 66 = m.1 62 66 := by rw [e7, ← hm1]; simp [gI_1]
  have u67 : m2.1 62 67 = m.1 62 67 := by rw [e8, ← hm1]; simp [gI_1]
  obtain ⟨m3, c1, c2, c3, c4, c5, c6⟩ := hV y (by omega) w8 wσ m2 (Q + 1) _ _ ⟨hQS.k k12, by omega, by rw [u67]; exact h67, e2⟩ (by omega) (g.ins (by omega)) e3
  have k3 : KB Q m m3 := k12.trans (c2.mono (by omega))
  have a3 : qAt m3 Q 1 2 s r lo hi sc := (a1.k e5 (by omega)).k c2 (by omega)
  have v101 : m3.2.1 101 Q = m.2.1 101 Q := by
    rw [(c2.1 101 Q (by decide) (by omega)).2, (e5.1 101 Q (by decide) (by omega)).2, ← hm1]
    simp [gI_2]
  have v103 : m3.1 103 Q = nI (y + 1) := by
    rw [(c2.1 103 Q (by decide) (by omega)).1, (e5.1 103 Q (by decide) (by omega)).1, ← hm1]
    simp [gI_1]
  have Q3 := hQS.k k3
  have e9 : ∀ F, 5000 ≤ F → f_X8_imports gSH F 62 (nI Q) m3 = some (gsI (gsL m3 102 Q (m3.2.1 62 65)) 95 Q 3) := by
    intro F hF
    rw [i_eq Q3 (by omega) a3, if_neg (by decide), if_neg (by decide), if_pos rfl]
  have r3 := q_step Q3 (show Q < 8000 by omega) c3 (Or.inr (Or.inl ⟨a3.1, e9⟩))
  generalize hm4 : gsI (gsL m3 102 Q (m3.2.1 62 65)) 95 Q 3 = m4 at e9 r3
  have k4 : KB Q m3 m4 := by
    rw [← hm4]
    exact (KB.l (by omega)).trans (KB.i (by omega))
  have w66 : m4.1 62 66 = m.1 62 66 := by
    rw [← hm4]
    simp [gI_1, gL_1]
    rw [c5, u66]
  have w67 : m4.1 62 67 = m.1 62 67 := by
    rw [← hm4]
    simp [gI_1, gL_1]
    rw [c6, u67]
  have f4 : m4.1 62 64 = nI (Q + 1) := by rw [← hm4]; simpa [gI_1, gL_1] using c3
  have f102 : m4.2.1 102 Q = m3.2.1 62 65 := by rw [← hm4]; simp [gI_2, gL_2]
  have f103 : m4.1 103 Q = nI (y + 1) := by rw [← hm4]; simpa [gI_1, gL_1] using v103
  have f101 : m4.2.1 101 Q = m.2.1 101 Q := by rw [← hm4]; simpa [gI_2, gL_2] using v101
  have a4 : qAt m4 Q 1 3 s r lo hi sc := by
    rw [← hm4]
    exact (a3.l (Or.inr rfl) _).st 3
  have k04 := k3.trans k4
  obtain ⟨m5, z1, z2, z3, z4, z5, z6, z7⟩ := q_inner (F := F) (nd := nd) hq hF hr hs (hL ⟨y, by omega, w8⟩) n2 n0 g gs 64 m4 (m3.2.1 62 65) (nI (y + 1)) (bc_le _ 64) (ok.k k04 f4 w67) a4 f102 f103 (fun d hd => hMd y d ((c4 d).mp hd))
  have k5 := k04.trans z2
  have x67 : m5.1 62 67 = m.1 62 67 := z6.2.trans w67
  obtain ⟨m6, t⟩ := ih (q 0 2 - (y + 1)) (by omega) (y + 1) m5 (by omega) (ok.k k5 z3 x67) z4 z5
  refine ⟨m6, (t.pre (((r1.trans c1).trans r3).trans z1) k5 (z6.1.trans w66) x67).mono (by
    have hm := Nat.mul_le_mul_right (tV + 64 * (tL + 2) + 4) (show q 0 2 - (y + 1) + 1 ≤ k by omega)
    rw [Nat.succ_mul] at hm
    omega) (fun d => ?_)⟩
  rw [z7 d, f101]
  constructor
  · rintro ((h | ⟨d', u, h1, h2, h3⟩) | ⟨r', u, h1, h2⟩)
    · exact Or.inl h
    · exact Or.inr ⟨y, u, y1, by omega, w8, wσ, ⟨d', (c4 d').mp h1, h2⟩, h3⟩
    · exact Or.inr ⟨r', u, by omega, h2⟩
  · rintro (h | ⟨r', u, h1, h2, h3, h4, ⟨d', h5, h6⟩, h7⟩)
    · exact Or.inl (Or.inl h)
    · by_cases c : r' = y
      · subst c
        exact Or.inl (Or.inr ⟨d', u, (c4 d').mpr h5, h6, h7⟩)
      · by_cases c2 : r' < y
        · exact absurd ⟨h3, h4⟩ (y4 r' h1 c2)
        · exact Or.inr ⟨r', u, by omega, h2, h3, h4, ⟨d', h5, h6⟩, h7⟩
theorem q_imp (hq : mQ q) (hF : 5000 ≤ F) (hr : r < q 0 2) (hs : s < q 0 0) {MV AL : Nat → Nat → Prop} {ndV ndL tV tL : Nat} (hMd : ∀ r' d, MV r' d → d < q 0 1) (hV : ∀ r', r' < q 0 2 → q 8 r' = s + 1 → σ r' = false → VSp q nk (mI σ r') r' ndV tV (MV r')) (hL : (∃ r', r' < q 0 2 ∧ q 8 r' = s + 1) → ∀ u, u < q 0 0 → q 2 u ≠ 6 → LSp q nk σ (mI S s) r u ndL tL (AL u)) (n1 : ndV + 1 ≤ nd) (n2 : ndL + 1 ≤ nd) (n0 : 2 ≤ nd) :
    ISp q nk σ S r s nd (100 * (tV + 64 * (tL + 2) + 4) + 2) (fun d => ∃ r' u, r' < q 0 2 ∧ q 8 r' = s + 1 ∧ σ r' = false ∧ (∃ d', MV r' d' ∧ q 5 d' = u + 1) ∧ AL u d) := by
  intro m Q lo hi sc ok g gs a h101
  obtain ⟨hQS, hQn, h67, h64⟩ := id ok
  have e : ∀ F, 5000 ≤ F → f_X8_imports gSH F 62 (nI Q) m = some (gsI (gsI m 103 Q 0) 95 Q 1) := by
    intro F hF
    rw [i_eq hQS (by omega) a, if_pos rfl]
  have r1 := q_step hQS (show Q < 8000 by omega) h64 (Or.inr (Or.inl ⟨a.1, e⟩))
  generalize hm1 : gsI (gsI m 103 Q 0) 95 Q 1 = m1 at e r1
  have k1 : KB Q m m1 := by
    rw [← hm1]
    exact (KB.i (by omega)).trans (KB.i (by omega))
  have a1 : qAt m1 Q 1 1 s r lo hi sc := by
    rw [← hm1]
    exact (a.n _).st 1
  have f64 : m1.1 62 64 = nI (Q + 1) := by rw [← hm1]; simpa [gI_1] using h64
  have f66 : m1.1 62 66 = m.1 62 66 := by rw [← hm1]; simp [gI_1]
  have f67 : m1.1 62 67 = m.1 62 67 := by rw [← hm1]; simp [gI_1]
  have f103 : m1.1 103 Q = nI 0 := by rw [← hm1]; simp [gI_1]; rfl
  have f101 : m1.2.1 101 Q = 0 := by rw [← hm1]; simpa [gI_2] using h101
  obtain ⟨m2, t⟩ := q_outer (nd := nd) hq hF hr hs hMd hV hL n1 n2 n0 g gs (q 0 2) 0 m1 (by omega) (ok.k k1 f64 f67) a1 f103
  refine ⟨m2, (t.pre r1 k1 f66 f67).mono (by
    have hm := Nat.mul_le_mul_right (tV + 64 * (tL + 2) + 4) (show q 0 2 ≤ 100 from hq.1.1.2.2.2.1)
    omega) (fun d => ?_)⟩
  rw [f101, bm_0]
  constructor
  · rintro (h | ⟨r', u, -, h2⟩)
    · cases h
    · exact ⟨r', u, h2⟩
  · rintro ⟨r', u, h2⟩
    exact Or.inr ⟨r', u, Nat.zero_le _, h2⟩
/-- local, from its imports -/
theorem q_loc {u : Nat} (hq : mQ q) (hF : 5000 ≤ F) (hr : r < q 0 2) (hu : u < q 0 0) {AI : Nat → Prop} {ndI tI : Nat} (hI : S u = false → (∀ d, ¬ mH q nk r u d) → ISp q nk σ S r u ndI tI AI) (n1 : ndI + 1 ≤ nd) (n0 : 2 ≤ nd) :
    LSp q nk σ S r u nd (tI + 2) (fun d => S u = false ∧ (mH q nk r u d ∨ ((∀ d, ¬ mH q nk r u d) ∧ AI d))) := by
  intro m Q lo hi sc ok g gs a
  obtain ⟨hQS, hQn, h67, h64⟩ := id ok
  obtain ⟨-, -, -, -, -, w6, p54, p55, p56, p57, p58, p59, p60, p61, p62, p63⟩ := id hQS
  have l0 := hq.1.1.2.1
  have cl : (nI Q).toNatClampNeg = Q := nI_clamp (by omega)
  have i8 : inB (nI Q) 8000 = true := g_inI (by omega) (by decide)
  have su := gs u (by omega)
  have say : ∀ x : Int64, (∀ d, bm x d = true ↔ S u = false ∧ (mH q nk r u d ∨ ((∀ d, ¬ mH q nk r u d) ∧ AI d))) → (∀ F, 5000 ≤ F → f_X8_local gSH F 62 (nI Q) m = some (gsI (gsL m 62 65 x) 62 64 (nI Q))) → ∃ m', qE (tI + 2) Q m m' (fun d => S u = false ∧ (mH q nk r u d ∨ ((∀ d, ¬ mH q nk r u d) ∧ AI d))) := by
    intro x hx e
    refine ⟨_, (q_step hQS (by omega) h64 (Or.inr (Or.inr ⟨a.1, e⟩))).mono (by omega), (KB.l (by omega)).trans (KB.i (by omega)), ?_, fun d => ?_, ?_, ?_⟩
    · simp [gI_1]
    · refine Iff.trans ?_ (hx d)
      simp [gI_2, gL_2]
    · simp [gI_1, gL_1]
    · simp [gI_1, gL_1]
  have un : ∀ F, 5000 ≤ F → f_X8_local gSH F 62 (nI Q) m = if S u = true then b_X8_local_44 gSH F 62 (nI Q) (nI u) 0 m else b_X8_local_44 gSH F 62 (nI Q) (nI u) (hSet q nk r u) m := by
    intro F hF
    unfold f_X8_local
    rw [ob_62, g_ift, p56, g_bs, show aB gSH 96 .int (nI Q) = true from i8, g_ift, cl, a.2.2.1, g_nmb, p55, g_bs, show aB gSH 95 .int (nI Q) = true from i8, g_ift, a.2.1, if_pos rfl, p60, g_bs, show aB gSH 100 .long (nI Q) = true from i8, g_ift, a.2.2.2.2.2.2, s_has (by omega), g_bs, g_nmb, g_nmb, su, p57, g_bs, show aB gSH 97 .int (nI Q) = true from i8, g_ift, a.2.2.2.1, s_here hQS hq.1 hr hu hF, g_bs, g_nmb, g_nmb]
    cases S u
    · rw [if_neg Bool.false_ne_true, if_pos (rfl : (0 : Int32) = 0), if_neg Bool.false_ne_true]
    · rw [if_pos rfl, if_neg one0, if_pos rfl]
  have e44 : ∀ F y, b_X8_local_44 gSH F 62 (nI Q) (nI u) y m = if y = 0 ∧ S u = false then (f_X8_ask gSH F 62 1 (nI u) (m.1 93 r) lo hi sc (gsI m 95 Q 1)).bind (fun m20 => some m20) else some (gsI (gsL m 62 65 y) 62 64 (nI Q)) := by
    intro F y
    unfold b_X8_local_44 b_X8_local_64
    rw [ob_62, g_ift, p60, g_bs, show aB gSH 100 .long (nI Q) = true from i8, g_ift, cl, a.2.2.2.2.2.2, s_has (by omega), g_bs, g_nmb, g_nmb, su, p55, g_bs, show aB gSH 95 .int (nI Q) = true from i8, g_ift, g_nmb, g_ift, s_says h64, g_bs, show (gsI m 95 Q 1).2.2 62 57 = some 97 from p57, g_bs, show aB gSH 97 .int (nI Q) = true from i8, g_ift, show (gsI m 95 Q 1).2.2 62 58 = some 98 from p58, g_bs, show aB gSH 98 .long (nI Q) = true from i8, g_ift, show (gsI m 95 Q 1).2.2 62 59 = some 99 from p59, g_bs, show aB gSH 99 .long (nI Q) = true from i8, g_ift, show (gsI m 95 Q 1).2.2 62 60 = some 100 from p60, g_bs, show aB gSH 100 .long (nI Q) = true from i8, g_ift]
    rw [show (gsI m 95 Q 1).1 97 Q = m.1 93 r from a.2.2.2.1, show (gsI m 95 Q 1).2.1 98 Q = lo from a.2.2.2.2.1, show (gsI m 95 Q 1).2.1 99 Q = hi from a.2.2.2.2.2.1, show (gsI m 95 Q 1).2.1 100 Q = sc from a.2.2.2.2.2.2]
    by_cases c : y = 0
    · rw [if_pos c]
      cases hS : S u
      · rw [if_neg Bool.false_ne_true, if_pos (rfl : (0 : Int32) = 0), if_pos ⟨c, rfl⟩]
      · rw [if_pos rfl, if_neg one0, if_neg (fun z => by cases z.2)]
    · rw [if_neg c, if_neg (fun z => c z.1)]
  have hS2 : S u = true ∨ S u = false := by cases S u <;> simp
  rcases hS2 with hS | hS
  · refine say 0 (fun d => ?_) ?_
    · rw [bm_0, hS]
      constructor
      · intro h; cases h
      · intro h; cases h.1
    · intro F hF
      rw [un F hF, if_pos hS, e44, if_neg (fun z => by rw [hS] at z; cases z.2)]
  · by_cases h0 : hSet q nk r u = 0
    rotate_left
    · have hne : ¬ ∀ d, ¬ mH q nk r u d := fun h => h0 ((hSet_0 hq.1).mpr h)
      refine say (hSet q nk r u) (fun d => ?_) ?_
      · rw [hSet_m hq.1]
        exact ⟨fun h => ⟨hS, Or.inl h⟩, fun h => h.2.elim id (fun z => absurd z.1 hne)⟩
      · intro F hF
        rw [un F hF, if_neg (by rw [hS]; exact Bool.false_ne_true), e44, if_neg (fun z => h0 z.1)]
    have hno := (hSet_0 hq.1).mp h0
    have k1 : KB Q m (gsI m 95 Q 1) := KB.i (by omega)
    have a1 := a.st 1
    have Q1 := hQS.k k1
    have f64 : (gsI m 95 Q 1).1 62 64 = nI (Q + 1) := by simpa [gI_1] using h64
    have f66 : (gsI m 95 Q 1).1 62 66 = m.1 62 66 := by simp [gI_1]
    have f67 : (gsI m 95 Q 1).1 62 67 = m.1 62 67 := by simp [gI_1]
    have f93 : (gsI m 95 Q 1).1 93 r = m.1 93 r := by simp [gI_1]
    have e4' := fun F => e44 F (hSet q nk r u)
    generalize gsI m 95 Q 1 = m1 at k1 a1 Q1 f64 f66 f67 f93 e4'
    obtain ⟨m2, e1, e2, e3, e4, e5, e6, e7, e8⟩ := s_ask (r := r) (s := u) (kd := 1) (lo := lo) (hi := hi) (sc := sc) Q1 (show Q + 1 < 8000 by omega) f64
    have e : ∀ F, 5000 ≤ F → f_X8_local gSH F 62 (nI Q) m = some m2 := by
      intro F hF
      rw [un F hF, if_neg (by rw [hS]; exact Bool.false_ne_true), e4' F, if_pos ⟨h0, hS⟩, ← f93, e1, g_bs]
    have r1 : qRn 1 m m2 := q_step hQS (by omega) h64 (Or.inr (Or.inr ⟨a.1, e⟩))
    have k12 : KB Q m m2 := k1.trans (e5.mono (by omega))
    obtain ⟨m3, c1, c2, c3, c4, c5, c6⟩ := hI hS hno m2 (Q + 1) lo hi sc ⟨hQS.k k12, by omega, by rw [e8, f67]; exact h67, e2⟩ g gs e3 e4
    have k3 : KB Q m m3 := k12.trans (c2.mono (by omega))
    have a3 : qAt m3 Q 2 1 u r lo hi sc := (a1.k e5 (by omega)).k c2 (by omega)
    have Q3 := hQS.k k3
    have e9 : ∀ F, 5000 ≤ F → f_X8_local gSH F 62 (nI Q) m3 = some (gsI (gsL m3 62 65 (m3.2.1 62 65)) 62 64 (nI Q)) := by
      intro F hF
      obtain ⟨-, -, -, -, -, -, v54, v55, v56, -⟩ := id Q3
      unfold f_X8_local
      rw [ob_62, g_ift, v56, g_bs, show aB gSH 96 .int (nI Q) = true from i8, g_ift, g_nmb, v55, g_bs, show aB gSH 95 .int (nI Q) = true from i8, g_ift, cl, a3.2.1, if_neg (by decide), s_says c3, g_bs]
    have r3 := q_step Q3 (show Q < 8000 by omega) c3 (Or.inr (Or.inr ⟨a3.1, e9⟩))
    refine ⟨_, ((r1.trans c1).trans r3).mono (by omega), k3.trans ((KB.l (by omega)).trans (KB.i (by omega))), ?_, fun d => ?_, ?_, ?_⟩
    · simp [gI_1]
    · have t := c4 d
      simp only [gI_2, gL_2]
      simp only [and_self, if_true]
      rw [t]
      exact ⟨fun h => ⟨hS, Or.inr ⟨hno, h⟩⟩, fun h => h.2.elim (fun z => absurd z (hno d)) (fun z => z.2)⟩
    · simp [gI_1, gL_1]
      rw [c5, e7, f66]
    · simp [gI_1, gL_1]
      rw [c6, e8, f67]
end QST
