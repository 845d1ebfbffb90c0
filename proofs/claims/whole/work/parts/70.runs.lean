/-! THE REFERENCE'S QUESTIONS: imports, run to their end -/
section QST
variable {q : Nat → Nat → Nat} {nk : Nat → Nat → Bool} {F Q r s nd : Nat} {m m' : gM} {lo hi sc : Int64} {σ S : Nat → Bool} {A : Nat → Prop}
theorem qAt.st {kd st : Int32} (h : qAt m Q kd st s r lo hi sc) (v : Int32) : qAt (gsI m 95 Q v) Q kd v s r lo hi sc := by
  obtain ⟨h1, h2, h3, h4, h5, h6, h7⟩ := h
  exact ⟨by simpa [gI_1] using h1, by simp [gI_1], by simpa [gI_1] using h3, by simpa [gI_1] using h4, h5, h6, h7⟩
theorem qAt.n {kd st : Int32} (h : qAt m Q kd st s r lo hi sc) (v : Int32) : qAt (gsI m 103 Q v) Q kd st s r lo hi sc := by
  obtain ⟨h1, h2, h3, h4, h5, h6, h7⟩ := h
  exact ⟨by simpa [gI_1] using h1, by simpa [gI_1] using h2, by simpa [gI_1] using h3, by simpa [gI_1] using h4, h5, h6, h7⟩
theorem qAt.l {kd st : Int32} {c : Nat} (h : qAt m Q kd st s r lo hi sc) (hc : c = 101 ∨ c = 102) (v : Int64) : qAt (gsL m c Q v) Q kd st s r lo hi sc := by
  obtain ⟨h1, h2, h3, h4, h5, h6, h7⟩ := h
  refine ⟨h1, h2, h3, h4, ?_, ?_, ?_⟩
  · rw [gL_2, if_neg (by omega)]; exact h5
  · rw [gL_2, if_neg (by omega)]; exact h6
  · rw [gL_2, if_neg (by omega)]; exact h7
theorem qOk.k (h : qOk q nk Q nd m) (k : KB Q m m') (h64 : m'.1 62 64 = nI (Q + 1)) (h67 : m'.1 62 67 = m.1 62 67) : qOk q nk Q nd m' := ⟨h.1.k k, h.2.1, by rw [h67]; exact h.2.2.1, h64⟩
theorem i_eq (h : QS q nk m) (hQ : Q < 8000) {st : Int32} (a : qAt m Q 1 st s r lo hi sc) : f_X8_imports gSH F 62 (nI Q) m = if st = 0 then some (gsI (gsI m 103 Q 0) 95 Q 1) else if st = 1 then l_X8_imports_60 gSH F F 62 (nI Q) (m.1 103 Q) m else if st = 2 then some (gsI (gsL m 102 Q (m.2.1 62 65)) 95 Q 3) else if st = 3 then l_X8_imports_204 gSH F F 62 (nI Q) 0 m else some (gsI (gsL m 101 Q (m.2.1 101 Q ||| m.2.1 62 65)) 95 Q 3) := by
  obtain ⟨-, -, -, -, -, -, p54, p55, p56, p57, p58, p59, p60, p61, p62, p63⟩ := h
  have cl : (nI Q).toNatClampNeg = Q := nI_clamp (by omega)
  have i8 : inB (nI Q) 8000 = true := g_inI (by omega) (by decide)
  have a95 : aB gSH 95 .int (nI Q) = true := i8
  have a103 : aB gSH 103 .int (nI Q) = true := i8
  have a102 : aB gSH 102 .long (nI Q) = true := i8
  have a101 : aB gSH 101 .long (nI Q) = true := i8
  unfold f_X8_imports
  simp only [ob_62, g_ift, g_bs, g_nmb, p55, p61, p62, p63, a95, a103, a102, a101, cl, a.2.1, gI_2, gL_3, gL_1]
theorem q_inner (hq : mQ q) (hF : 5000 ≤ F) (hr : r < q 0 2) (hs : s < q 0 0) {AL : Nat → Nat → Prop} {ndL tL : Nat} (hL : ∀ u, u < q 0 0 → q 2 u ≠ 6 → LSp q nk σ (mI S s) r u ndL tL (AL u)) (n2 : ndL + 1 ≤ nd) (n0 : 2 ≤ nd) (g : SgR lo hi σ) (gs : ScR sc S) : ∀ (k : Nat) (m : gM) (op : Int64) (nx : Int32), bc 64 (bm op) ≤ k → qOk q nk Q nd m → qAt m Q 1 3 s r lo hi sc → m.2.1 102 Q = op → m.1 103 Q = nx → (∀ d, bm op d = true → d < q 0 1) →
    ∃ m', qRn (k * (tL + 2) + 1) m m' ∧ KB Q m m' ∧ m'.1 62 64 = nI (Q + 1) ∧ qAt m' Q 1 1 s r lo hi sc ∧ m'.1 103 Q = nx ∧ (m'.1 62 66 = m.1 62 66 ∧ m'.1 62 67 = m.1 62 67) ∧ ∀ d, (bm (m'.2.1 101 Q) d = true ↔ bm (m.2.1 101 Q) d = true ∨ ∃ d' u, bm op d' = true ∧ q 5 d' = u + 1 ∧ AL u d) := by
  have l0 := hq.1.1.2.1
  have l1 := hq.1.1.2.2.1
  intro k
  induction k with
  | zero =>
    intro m op nx hk ok a ho hx hd
    have e0 := bc_0 (Nat.le_zero.mp hk)
    obtain ⟨hQS, hQn, h67, h64⟩ := id ok
    obtain ⟨y, y1, y2, y3, y4, y5⟩ := d_search hQS hq.1 (by omega) ho (q 0 1) 0 (by omega)
    have hy : y = q 0 1 := by
      apply Classical.byContradiction
      intro hn
      have := (y5 (by omega)).1
      rw [e0, bm_0] at this
      cases this
    have e : ∀ F, 5000 ≤ F → f_X8_imports gSH F 62 (nI Q) m = some (gsI m 95 Q 1) := by
      intro F hF
      rw [i_eq hQS (by omega) a, if_neg (by decide), if_neg (by decide), if_neg (by decide), if_pos rfl, show (0 : Int32) = nI 0 from rfl, y3 F F (by omega)]
      unfold b_X8_imports_240
      rw [ob_62, g_ift, hQS.1.2.1, hy, if_pos rfl, hQS.2.2.2.2.2.2.2.1, g_bs, show aB gSH 95 .int (nI Q) = true from g_inI (N := 8000) (by omega) (by decide), g_ift, nI_clamp (by omega), g_nmb]
    refine ⟨gsI m 95 Q 1, (q_step hQS (by omega) h64 (Or.inr (Or.inl ⟨a.1, e⟩))).mono (by omega), KB.i (by omega), ?_, a.st 1, ?_, ⟨?_, ?_⟩, fun d => ⟨Or.inl, fun h => ?_⟩⟩
    · simpa [gI_1] using h64
    · simpa [gI_1] using hx
    · simp [gI_1]
    · simp [gI_1]
    · rcases h with h | ⟨d', u, h1, -⟩
      · exact h
      · rw [e0, bm_0] at h1
        cases h1
  | succ k ih =>
    intro m op nx hk ok a ho hx hd
    obtain ⟨hQS, hQn, h67, h64⟩ := id ok
    obtain ⟨y, y1, y2, y3, y4, y5⟩ := d_search hQS hq.1 (by omega) ho (q 0 1) 0 (by omega)
    obtain ⟨-, -, -, -, -, -, p54, p55, p56, p57, p58, p59, p60, p61, p62, p63⟩ := id hQS
    have p14 := hQS.2.2.2.2.2.1.2.2.1
    have cl : (nI Q).toNatClampNeg = Q := nI_clamp (by omega)
    have i8 : inB (nI Q) 8000 = true := g_inI (by omega) (by decide)
    by_cases hy : y = q 0 1
    · have e : ∀ F, 5000 ≤ F → f_X8_imports gSH F 62 (nI Q) m = some (gsI m 95 Q 1) := by
        intro F hF
        rw [i_eq hQS (by omega) a, if_neg (by decide), if_neg (by decide), if_neg (by decide), if_pos rfl, show (0 : Int32) = nI 0 from rfl, y3 F F (by omega)]
        unfold b_X8_imports_240
        rw [ob_62, g_ift, hQS.1.2.1, hy, if_pos rfl, p55, g_bs, show aB gSH 95 .int (nI Q) = true from i8, g_ift, cl, g_nmb]
      refine ⟨gsI m 95 Q 1, (q_step hQS (by omega) h64 (Or.inr (Or.inl ⟨a.1, e⟩))).mono (by omega), KB.i (by omega), ?_, a.st 1, ?_, ⟨?_, ?_⟩, fun d => ⟨Or.inl, fun h => ?_⟩⟩
      · simpa [gI_1] using h64
      · simpa [gI_1] using hx
      · simp [gI_1]
      · simp [gI_1]
      · rcases h with h | ⟨d', u, h1, h2, -⟩
        · exact h
        · exact absurd ⟨h1, by omega⟩ (y4 d' (Nat.zero_le _) (by have := hd d' h1; omega))
    · obtain ⟨oy, o5⟩ := y5 (by omega)
      have q5l := (hq.1.2.2.1 y (by omega)).2
      -- the step that asks
      generalize hm1 : gsI (gsL m 102 Q (op &&& (bl y ^^^ (-1)))) 95 Q 4 = m1
      have k1 : KB Q m m1 := by
        rw [← hm1]
        exact (KB.l (by omega)).trans (KB.i (by omega))
      have a1 : qAt m1 Q 1 4 s r lo hi sc := by
        rw [← hm1]
        exact (a.l (Or.inr rfl) _).st 4
      have Q1 := hQS.k k1
      have f64 : m1.1 62 64 = nI (Q + 1) := by rw [← hm1]; simpa [gI_1, gL_1] using h64
      obtain ⟨m2, e1, e2, e3, e4, e5, e6, e7, e8⟩ := s_ask (r := r) (s := q 5 y - 1) (kd := 2) (lo := lo) (hi := hi) (sc := sc ||| bl s) Q1 (show Q + 1 < 8000 by omega) f64
      have e : ∀ F, 5000 ≤ F → f_X8_imports gSH F 62 (nI Q) m = some m2 := by
        intro F hF
        rw [i_eq hQS (by omega) a, if_neg (by decide), if_neg (by decide), if_neg (by decide), if_pos rfl, show (0 : Int32) = nI 0 from rfl, y3 F F (by omega)]
        unfold b_X8_imports_240
        rw [ob_62, g_ift, hQS.1.2.1, if_neg (fun z => hy ((k_lit (by omega) (by omega)).mp z)), p62, g_bs, show aB gSH 102 .long (nI Q) = true from i8, g_ift, g_ift, g_nmb, cl, ho, show (gsL m 102 Q (op &&& ((1 : Int64) <<< ((nI y).toInt64 &&& 63) ^^^ (-1)))).2.2 62 55 = some 95 from p55, g_bs, show aB gSH 95 .int (nI Q) = true from i8, g_ift, g_nmb]
        rw [show gsI (gsL m 102 Q (op &&& ((1 : Int64) <<< ((nI y).toInt64 &&& 63) ^^^ (-1)))) 95 Q 4 = m1 from hm1]
        have t71 := (Q1.2.2.1 y (by omega)).2
        rw [nI_p1 (by omega)] at t71
        obtain ⟨-, -, -, -, -, w6, w54, w55, w56, w57, w58, w59, w60, w61, w62, w63⟩ := id Q1
        rw [w6.2.2.1, g_bs, show aB gSH 71 .int (nI y) = true from g_inI (N := 61) (by omega) (by decide), g_ift, w57, g_bs, show aB gSH 97 .int (nI Q) = true from i8, g_ift, w58, g_bs, show aB gSH 98 .long (nI Q) = true from i8, g_ift, w59, g_bs, show aB gSH 99 .long (nI Q) = true from i8, g_ift, w60, g_bs, show aB gSH 100 .long (nI Q) = true from i8, g_ift, w56, g_bs, show aB gSH 96 .int (nI Q) = true from i8, g_ift, nI_clamp (show y < 2 ^ 31 by omega), t71, a1.2.2.2.1, a1.2.2.2.2.1, a1.2.2.2.2.2.1, a1.2.2.2.2.2.2, a1.2.2.1]
        show (f_X8_ask gSH F 62 2 (nI (q 5 y - 1)) (m1.1 93 r) lo hi (sc ||| bl s) m1).bind _ = _
        rw [e1, g_bs]
      have r1 : qRn 1 m m2 := q_step hQS (by omega) h64 (Or.inr (Or.inl ⟨a.1, e⟩))
      have k12 : KB Q m m2 := k1.trans (e5.mono (by omega))
      have u66 : m2.1 62 66 = m.1 62 66 := by rw [e7, ← hm1]; simp [gI_1, gL_1]
      have u67 : m2.1 62 67 = m.1 62 67 := by rw [e8, ← hm1]; simp [gI_1, gL_1]
      obtain ⟨m3, c1, c2, c3, c4, c5, c6⟩ := hL (q 5 y - 1) (by omega) ((hq.2.1.2.1 y (by omega)).2 o5) m2 (Q + 1) lo hi (sc ||| bl s) ⟨hQS.k k12, by omega, by rw [u67]; exact h67, e2⟩ g (gs.ins (by omega)) e3
      have k3 : KB Q m m3 := k12.trans (c2.mono (by omega))
      have a3 : qAt m3 Q 1 4 s r lo hi sc := (a1.k e5 (by omega)).k c2 (by omega)
      have v101 : m3.2.1 101 Q = m.2.1 101 Q := by
        rw [(c2.1 101 Q (by decide) (by omega)).2, (e5.1 101 Q (by decide) (by omega)).2, ← hm1]
        simp [gI_2, gL_2]
      have v102 : m3.2.1 102 Q = op &&& (bl y ^^^ (-1)) := by
        rw [(c2.1 102 Q (by decide) (by omega)).2, (e5.1 102 Q (by decide) (by omega)).2, ← hm1]
        simp [gI_2, gL_2]
      have v103 : m3.1 103 Q = nx := by
        rw [(c2.1 103 Q (by decide) (by omega)).1, (e5.1 103 Q (by decide) (by omega)).1, ← hm1]
        simpa [gI_1, gL_1] using hx
      have Q3 := hQS.k k3
      have e9 : ∀ F, 5000 ≤ F → f_X8_imports gSH F 62 (nI Q) m3 = some (gsI (gsL m3 101 Q (m3.2.1 101 Q ||| m3.2.1 62 65)) 95 Q 3) := by
        intro F hF
        rw [i_eq Q3 (by omega) a3, if_neg (by decide), if_neg (by decide), if_neg (by decide), if_neg (by decide)]
      have r3 := q_step Q3 (show Q < 8000 by omega) c3 (Or.inr (Or.inl ⟨a3.1, e9⟩))
      generalize hm4 : gsI (gsL m3 101 Q (m3.2.1 101 Q ||| m3.2.1 62 65)) 95 Q 3 = m4 at e9 r3
      have k4 : KB Q m3 m4 := by
        rw [← hm4]
        exact (KB.l (by omega)).trans (KB.i (by omega))
      have bb : ∀ d, d < 64 → bm (op &&& (bl y ^^^ (-1))) d = (bm op d && decide (d ≠ y)) := fun d hd' => by
        rw [bm_and, bm_no _ hd', bm_bl (by omega)]
        simp
      have w66 : m4.1 62 66 = m.1 62 66 := by
        rw [← hm4]
        simp [gI_1, gL_1]
        rw [c5, u66]
      have w67 : m4.1 62 67 = m.1 62 67 := by
        rw [← hm4]
        simp [gI_1, gL_1]
        rw [c6, u67]
      have f4 : m4.1 62 64 = nI (Q + 1) := by rw [← hm4]; simpa [gI_1, gL_1] using c3
      have f102 : m4.2.1 102 Q = op &&& (bl y ^^^ (-1)) := by rw [← hm4]; simpa [gI_2, gL_2] using v102
      have f103 : m4.1 103 Q = nx := by rw [← hm4]; simpa [gI_1, gL_1] using v103
      have f101 : m4.2.1 101 Q = m3.2.1 101 Q ||| m3.2.1 62 65 := by rw [← hm4]; simp [gI_2, gL_2]
      have a4 : qAt m4 Q 1 3 s r lo hi sc := by
        rw [← hm4]
        exact (a3.l (Or.inl rfl) _).st 3
      have b1 := bc_del oy 64 (by omega)
      obtain ⟨m5, z1, z2, z3, z4, z5, z6, z7⟩ := ih m4 (op &&& (bl y ^^^ (-1))) nx (by
        rw [bc_cong 64 (fun d hd' => bb d hd')]
        omega) (ok.k (k3.trans k4) f4 w67) a4 f102 f103 (fun d hd' => by
        rw [bm_and] at hd'
        simp at hd'
        exact hd d hd'.1)
      refine ⟨m5, (((r1.trans c1).trans r3).trans z1).mono (by rw [Nat.succ_mul]; omega), (k3.trans k4).trans z2, z3, z4, z5, ⟨z6.1.trans w66, z6.2.trans w67⟩, fun d => ?_⟩
      rw [z7 d, f101, bm_or, Bool.or_eq_true, v101, c4 d]
      constructor
      · rintro ((h | h) | ⟨d', u, h1, h2, h3⟩)
        · exact Or.inl h
        · exact Or.inr ⟨y, q 5 y - 1, oy, by omega, h⟩
        · rw [bm_and, Bool.and_eq_true] at h1
          exact Or.inr ⟨d', u, h1.1, h2, h3⟩
      · rintro (h | ⟨d', u, h1, h2, h3⟩)
        · exact Or.inl (Or.inl h)
        · by_cases c : d' = y
          · subst c
            have eu : u = q 5 d' - 1 := by omega
            subst eu
            exact Or.inl (Or.inr h3)
          · refine Or.inr ⟨d', u, ?_, h2, h3⟩
            have hd' := hd d' h1
            rw [bb d' (by omega)]
            simp [h1, c]
end QST
