/-! THE REFERENCE'S QUESTIONS: small steps -/
/-- the rows of the questions from Q on, and the places of the answer, may change -/
def KB (Q : Nat) (m m' : gM) : Prop := (∀ c j, c ≠ 62 → ¬ (94 ≤ c ∧ c ≤ 103 ∧ Q ≤ j) → m'.1 c j = m.1 c j ∧ m'.2.1 c j = m.2.1 c j) ∧ (∀ j, j ≠ 64 → j ≠ 66 → j ≠ 67 → m'.1 62 j = m.1 62 j) ∧ (∀ j, j ≠ 65 → m'.2.1 62 j = m.2.1 62 j) ∧ m'.2.2 = m.2.2
theorem KB.refl {Q : Nat} (m : gM) : KB Q m m := ⟨fun _ _ _ _ => ⟨rfl, rfl⟩, fun _ _ _ _ => rfl, fun _ _ => rfl, rfl⟩
theorem KB.trans {Q : Nat} {a b c : gM} (h : KB Q a b) (k : KB Q b c) : KB Q a c := ⟨fun x j h1 h2 => ⟨(k.1 x j h1 h2).1.trans (h.1 x j h1 h2).1, (k.1 x j h1 h2).2.trans (h.1 x j h1 h2).2⟩, fun j h1 h2 h3 => (k.2.1 j h1 h2 h3).trans (h.2.1 j h1 h2 h3), fun j h1 => (k.2.2.1 j h1).trans (h.2.2.1 j h1), k.2.2.2.trans h.2.2.2⟩
theorem KB.mono {Q Q' : Nat} {a b : gM} (h : KB Q a b) (hq : Q' ≤ Q) : KB Q' a b := ⟨fun x j h1 h2 => h.1 x j h1 (by omega), h.2⟩
theorem KB.i {Q c j : Nat} {m : gM} {v : Int32} (h : (c = 62 ∧ (j = 64 ∨ j = 66 ∨ j = 67)) ∨ (94 ≤ c ∧ c ≤ 103 ∧ Q ≤ j)) : KB Q m (gsI m c j v) := ⟨fun x i h1 h2 => ⟨by rw [gI_1, if_neg (by omega)], rfl⟩, fun i h1 h2 h3 => by rw [gI_1, if_neg (by omega)], fun _ _ => rfl, rfl⟩
theorem KB.l {Q c j : Nat} {m : gM} {v : Int64} (h : (c = 62 ∧ j = 65) ∨ (94 ≤ c ∧ c ≤ 103 ∧ Q ≤ j)) : KB Q m (gsL m c j v) := ⟨fun x i h1 h2 => ⟨rfl, by rw [gL_2, if_neg (by omega)]⟩, fun _ _ _ _ => rfl, fun i h1 => by rw [gL_2, if_neg (by omega)], rfl⟩
/-- the reference's program and names while it asks -/
def QS (q : Nat → Nat → Nat) (nk : Nat → Nat → Bool) (m : gM) : Prop := (m.1 62 10 = nI (q 0 0) ∧ m.1 62 15 = nI (q 0 1) ∧ m.1 62 20 = nI (q 0 2)) ∧ (∀ s, s < q 0 0 → m.1 66 s = nI (q 1 s) - 1) ∧ (∀ d, d < q 0 1 → m.1 68 d = nI (q 3 d) ∧ m.1 71 d = nI (q 5 d) - 1) ∧ (∀ r, r < q 0 2 → m.1 72 r = nI (q 6 r) ∧ m.1 75 r = nI (q 8 r) - 1) ∧
  (∀ r d, r < q 0 2 → d < q 0 1 → (m.1 92 d = m.1 93 r ↔ nk r d = true)) ∧
  (m.2.2 62 8 = some 66 ∧ m.2.2 62 11 = some 68 ∧ m.2.2 62 14 = some 71 ∧ m.2.2 62 16 = some 72 ∧ m.2.2 62 19 = some 75 ∧ m.2.2 62 52 = some 92 ∧ m.2.2 62 53 = some 93) ∧
  (m.2.2 62 54 = some 94 ∧ m.2.2 62 55 = some 95 ∧ m.2.2 62 56 = some 96 ∧ m.2.2 62 57 = some 97 ∧ m.2.2 62 58 = some 98 ∧ m.2.2 62 59 = some 99 ∧ m.2.2 62 60 = some 100 ∧ m.2.2 62 61 = some 101 ∧ m.2.2 62 62 = some 102 ∧ m.2.2 62 63 = some 103)
theorem QS.k {q : Nat → Nat → Nat} {nk : Nat → Nat → Bool} {Q : Nat} {m m' : gM} (h : QS q nk m) (k : KB Q m m') : QS q nk m' := by
  have e : ∀ c j, c ≠ 62 → ¬ (94 ≤ c ∧ c ≤ 103) → m'.1 c j = m.1 c j := fun c j h1 h2 => (k.1 c j h1 (by omega)).1
  obtain ⟨h1, h2, h3, h4, h5, h6, h7⟩ := h
  refine ⟨?_, fun s hs => ?_, fun d hd => ?_, fun r hr => ?_, fun r d hr hd => ?_, ?_, ?_⟩
  · rw [k.2.1 10 (by decide) (by decide) (by decide), k.2.1 15 (by decide) (by decide) (by decide), k.2.1 20 (by decide) (by decide) (by decide)]
    exact h1
  · rw [e 66 s (by decide) (by omega)]
    exact h2 s hs
  · rw [e 68 d (by decide) (by omega), e 71 d (by decide) (by omega)]
    exact h3 d hd
  · rw [e 72 r (by decide) (by omega), e 75 r (by decide) (by omega)]
    exact h4 r hr
  · rw [e 92 d (by decide) (by omega), e 93 r (by decide) (by omega)]
    exact h5 r d hr hd
  · rw [k.2.2.2]
    exact h6
  · rw [k.2.2.2]
    exact h7
theorem s_has {sh : List gS} {F : Nat} {x : Int64} {k : Nat} {m : gM} (hk : k < 64) : f_X8_has sh F x (nI k) m = some (if bm x k = true then 1 else 0, m) := by
  unfold f_X8_has
  by_cases c : bm x k = true
  · rw [if_pos ((bm_sh hk).mpr c), if_pos c]
  · rw [if_neg (fun e => c ((bm_sh hk).mp e)), if_neg c]
section QST
variable {q : Nat → Nat → Nat} {nk : Nat → Nat → Bool} {F Q r s : Nat} {m : gM}
theorem s_hereL (h : QS q nk m) (hS : aS q) (hr : r < q 0 2) (hs : s < q 0 0) : ∀ (k N d : Nat), d + k = q 0 1 → k < N → l_X8_here_5 gSH F N 62 (nI s) (m.1 93 r) (bs d (fun x => decide (q 3 x = s) && nk r x)) (nI d) m = some (bs (q 0 1) (fun x => decide (q 3 x = s) && nk r x), m) := by
  obtain ⟨⟨a1, a2, a3⟩, h2, h3, h4, h5, ⟨p8, p11, p14, p16, p19, p52, p53⟩, -⟩ := h
  have l0 := hS.1.2.1
  have l1 := hS.1.2.2.1
  intro k
  induction k with
  | zero =>
    intro N d hk hN
    obtain ⟨N, rfl⟩ : ∃ N', N = N' + 1 := ⟨N - 1, by omega⟩
    show b_X8_here_5 gSH F (l_X8_here_5 gSH F N) 62 (nI s) (m.1 93 r) (bs d (fun x => decide (q 3 x = s) && nk r x)) (nI d) m = _
    unfold b_X8_here_5
    rw [ob_62, g_ift, a2, if_pos (nI_le (by omega) (by omega)), show d = q 0 1 by omega]
  | succ k ih =>
    intro N d hk hN
    obtain ⟨N, rfl⟩ : ∃ N', N = N' + 1 := ⟨N - 1, by omega⟩
    have sl := (hS.2.2.1 d (by omega)).1
    have e45 : ∀ y, b_X8_here_45 gSH F (l_X8_here_5 gSH F N) 62 (nI s) (m.1 93 r) (nI d) y (bs d (fun x => decide (q 3 x = s) && nk r x)) m = l_X8_here_5 gSH F N 62 (nI s) (m.1 93 r) (bs d (fun x => decide (q 3 x = s) && nk r x) ||| y) (nI (d + 1)) m := fun y => by
      unfold b_X8_here_45
      rw [g_nmb, g_nmb, nI_a1]
    have e : l_X8_here_5 gSH F (N + 1) 62 (nI s) (m.1 93 r) (bs d (fun x => decide (q 3 x = s) && nk r x)) (nI d) m = l_X8_here_5 gSH F N 62 (nI s) (m.1 93 r) (bs (d + 1) (fun x => decide (q 3 x = s) && nk r x)) (nI (d + 1)) m := by
      show b_X8_here_5 gSH F (l_X8_here_5 gSH F N) 62 (nI s) (m.1 93 r) (bs d (fun x => decide (q 3 x = s) && nk r x)) (nI d) m = _
      unfold b_X8_here_5 b_X8_here_44
      rw [ob_62, g_ift, a2, if_neg (nI_ge (by omega) (by omega)), p11, g_bs, show aB gSH 68 .int (nI d) = true from g_inI (N := 61) (by omega) (by decide), g_ift, nI_clamp (by omega), (h3 d (by omega)).1, p52, g_bs, show aB gSH 92 .int (nI d) = true from g_inI (N := 61) (by omega) (by decide), g_ift, e45, e45]
      have o0 : bs d (fun x => decide (q 3 x = s) && nk r x) ||| 0 = bs d (fun x => decide (q 3 x = s) && nk r x) := by
        apply bm_ext
        intro x _
        rw [bm_or, bm_0, Bool.or_false]
      by_cases c1 : q 3 d = s
      · rw [if_pos (show nI (q 3 d) = nI s by rw [c1])]
        by_cases c2 : nk r d = true
        · rw [if_pos ((h5 r d hr (by omega)).mpr c2)]
          congr 1
          show _ = if (decide (q 3 d = s) && nk r d) = true then _ else _
          rw [if_pos (by rw [c2, decide_eq_true c1]; rfl)]
          rfl
        · rw [if_neg (fun x => c2 ((h5 r d hr (by omega)).mp x)), o0]
          congr 1
          show _ = if (decide (q 3 d = s) && nk r d) = true then _ else _
          rw [if_neg (by simp [c2])]
      · rw [if_neg (fun x => c1 ((k_lit (by omega) (by omega)).mp x)), o0]
        congr 1
        show _ = if (decide (q 3 d = s) && nk r d) = true then _ else _
        rw [if_neg (by simp [c1])]
    rw [e]
    exact ih N (d + 1) (by omega) (by omega)
def hSet (q : Nat → Nat → Nat) (nk : Nat → Nat → Bool) (r s : Nat) : Int64 := bs (q 0 1) (fun x => decide (q 3 x = s) && nk r x)
theorem hSet_m (hS : aS q) (d : Nat) : bm (hSet q nk r s) d = true ↔ mH q nk r s d := by
  unfold hSet mH
  rw [bm_bs (by have := hS.1.2.2.1; omega)]
  simp
theorem hSet_0 (hS : aS q) : hSet q nk r s = 0 ↔ ∀ d, ¬ mH q nk r s d := by
  constructor
  · intro e d hd
    have := (hSet_m hS d).mpr hd
    rw [e, bm_0] at this
    cases this
  · intro h
    apply bm_ext
    intro d _
    rw [bm_0]
    cases e : bm (hSet q nk r s) d with
    | false => rfl
    | true => exact absurd ((hSet_m hS d).mp e) (h d)
theorem s_here (h : QS q nk m) (hS : aS q) (hr : r < q 0 2) (hs : s < q 0 0) (hF : 5000 ≤ F) : f_X8_here gSH F 62 (nI s) (m.1 93 r) m = some (hSet q nk r s, m) := by
  have l1 := hS.1.2.2.1
  exact s_hereL h hS hr hs (q 0 1) F 0 (by omega) (by omega)
/-- a question's record -/
def qAt (m : gM) (Q : Nat) (kd st : Int32) (s r : Nat) (lo hi sc : Int64) : Prop := m.1 94 Q = kd ∧ m.1 95 Q = st ∧ m.1 96 Q = nI s ∧ m.1 97 Q = m.1 93 r ∧ m.2.1 98 Q = lo ∧ m.2.1 99 Q = hi ∧ m.2.1 100 Q = sc
theorem qAt.k {m' : gM} {kd st : Int32} {lo hi sc : Int64} {Q' : Nat} (h : qAt m Q kd st s r lo hi sc) (k : KB Q' m m') (hq : Q < Q') : qAt m' Q kd st s r lo hi sc := by
  obtain ⟨h1, h2, h3, h4, h5, h6, h7⟩ := h
  have e : ∀ c j, c ≠ 62 → (94 ≤ c ∧ c ≤ 103 → j < Q') → m'.1 c j = m.1 c j ∧ m'.2.1 c j = m.2.1 c j := fun c j a b => k.1 c j a (by omega)
  refine ⟨?_, ?_, ?_, ?_, ?_, ?_, ?_⟩
  · rw [(e 94 Q (by decide) (by omega)).1]; exact h1
  · rw [(e 95 Q (by decide) (by omega)).1]; exact h2
  · rw [(e 96 Q (by decide) (by omega)).1]; exact h3
  · rw [(e 97 Q (by decide) (by omega)).1, (e 93 r (by decide) (by omega)).1]; exact h4
  · rw [(e 98 Q (by decide) (by omega)).2]; exact h5
  · rw [(e 99 Q (by decide) (by omega)).2]; exact h6
  · rw [(e 100 Q (by decide) (by omega)).2]; exact h7
theorem qB (c : Nat) (h : c = 94 ∨ c = 95 ∨ c = 96 ∨ c = 97 ∨ c = 103) : ∀ x, aB gSH c .int x = inB x 8000 := by
  rcases h with rfl | rfl | rfl | rfl | rfl <;> exact fun x => rfl
theorem qBl (c : Nat) (h : c = 98 ∨ c = 99 ∨ c = 100 ∨ c = 101 ∨ c = 102) : ∀ x, aB gSH c .long x = inB x 8000 := by
  rcases h with rfl | rfl | rfl | rfl | rfl <;> exact fun x => rfl
set_option maxHeartbeats 1000000 in
theorem s_ask (h : QS q nk m) (hQ : Q < 8000) (h64 : m.1 62 64 = nI Q) {kd : Int32} {lo hi sc : Int64} : ∃ m', (∀ F, f_X8_ask gSH F 62 kd (nI s) (m.1 93 r) lo hi sc m = some m') ∧ m'.1 62 64 = nI (Q + 1) ∧ qAt m' Q kd 0 s r lo hi sc ∧ m'.2.1 101 Q = 0 ∧ KB Q m m' ∧ m'.2.1 62 = m.2.1 62 ∧ m'.1 62 66 = m.1 62 66 ∧ m'.1 62 67 = m.1 62 67 := by
  obtain ⟨-, -, -, -, -, -, p54, p55, p56, p57, p58, p59, p60, p61, p62, p63⟩ := h
  have cl : (nI Q).toNatClampNeg = Q := nI_clamp (by omega)
  have i8 : inB (nI Q) 8000 = true := g_inI (by omega) (by decide)
  have a94 : aB gSH 94 .int (nI Q) = true := i8
  have a95 : aB gSH 95 .int (nI Q) = true := i8
  have a96 : aB gSH 96 .int (nI Q) = true := i8
  have a97 : aB gSH 97 .int (nI Q) = true := i8
  have a98 : aB gSH 98 .long (nI Q) = true := i8
  have a99 : aB gSH 99 .long (nI Q) = true := i8
  have a100 : aB gSH 100 .long (nI Q) = true := i8
  have a101 : aB gSH 101 .long (nI Q) = true := i8
  refine ⟨gsI (gsL (gsL (gsL (gsL (gsI (gsI (gsI (gsI m 94 Q kd) 95 Q 0) 96 Q (nI s)) 97 Q (m.1 93 r)) 98 Q lo) 99 Q hi) 100 Q sc) 101 Q 0) 62 64 (nI (Q + 1)), ?_, ?_, ⟨?_, ?_, ?_, ?_, ?_, ?_, ?_⟩, ?_, ?_, ?_, ?_, ?_⟩
  · intro F
    unfold f_X8_ask
    simp [ob_62, g_ift, g_bs, g_nmb, h64, p54, p55, p56, p57, p58, p59, p60, p61, a94, a95, a96, a97, a98, a99, a100, a101, cl, gI_1, gI_2, gL_1, gL_2, gL_3, nI_1]
  · simp [gI_1]
  · simp [gI_1, gL_1]
  · simp [gI_1, gL_1]
  · simp [gI_1, gL_1]
  · simp [gI_1, gL_1]
  · simp [gI_2, gL_2]
  · simp [gI_2, gL_2]
  · simp [gI_2, gL_2]
  · simp [gI_2, gL_2]
  · exact (((((((((KB.i (by omega)).trans (KB.i (by omega))).trans (KB.i (by omega))).trans (KB.i (by omega))).trans (KB.l (by omega))).trans (KB.l (by omega))).trans (KB.l (by omega))).trans (KB.l (by omega))).trans (KB.i (by omega)))
  · funext j
    simp [gI_2, gL_2]
  · simp [gI_1, gL_1]
  · simp [gI_1, gL_1]
theorem s_says (h64 : m.1 62 64 = nI (Q + 1)) {x : Int64} : f_X8_says gSH F 62 x m = some (gsI (gsL m 62 65 x) 62 64 (nI Q)) := by
  unfold f_X8_says
  rw [ob_62, g_ift, g_nmb, g_nmb, show (gsL m 62 65 x).1 62 64 = nI (Q + 1) from h64, nI_pred]
/-- the loop over the questions: at most t of its rounds -/
def qRn (t : Nat) (m m' : gM) : Prop := ∃ n, n ≤ t ∧ ∀ F, 5000 ≤ F → ∀ N, l_X8_mean_22 gSH F (N + n) 62 m = l_X8_mean_22 gSH F N 62 m'
theorem qRn.trans {t t' : Nat} {a b c : gM} (h : qRn t a b) (k : qRn t' b c) : qRn (t + t') a c := by
  obtain ⟨n, hn, h⟩ := h
  obtain ⟨n', hn', k⟩ := k
  exact ⟨n' + n, by omega, fun F hF N => by rw [← Nat.add_assoc, h F hF, k F hF]⟩
theorem qRn.mono {t t' : Nat} {a b : gM} (h : qRn t a b) (ht : t ≤ t') : qRn t' a b := by
  obtain ⟨n, hn, h⟩ := h
  exact ⟨n, by omega, h⟩
theorem q_step {m' : gM} (h : QS q nk m) (hQ : Q < 8000) (h64 : m.1 62 64 = nI (Q + 1)) (hk : (m.1 94 Q = 0 ∧ ∀ F, 5000 ≤ F → f_X8_visible gSH F 62 (nI Q) m = some m') ∨ (m.1 94 Q = 1 ∧ ∀ F, 5000 ≤ F → f_X8_imports gSH F 62 (nI Q) m = some m') ∨ (m.1 94 Q = 2 ∧ ∀ F, 5000 ≤ F → f_X8_local gSH F 62 (nI Q) m = some m')) : qRn 1 m m' := by
  refine ⟨1, Nat.le_refl _, fun F hF N => ?_⟩
  have p54 := h.2.2.2.2.2.2.1
  have cl : (nI Q).toNatClampNeg = Q := nI_clamp (by omega)
  have a94 : aB gSH 94 .int (nI Q) = true := g_inI (N := 8000) (by omega) (by decide)
  show b_X8_mean_22 gSH F (l_X8_mean_22 gSH F N) 62 m = _
  unfold b_X8_mean_22 b_X8_mean_76
  rw [ob_62, g_ift, h64, if_neg (show ¬ nI (Q + 1) ≤ 0 from nI_ge (a := 0) (by omega) (by omega)), nI_pred, g_nmb, p54, g_bs, a94, g_ift, cl, g_bs, a94, g_ift]
  rcases hk with ⟨h1, h2⟩ | ⟨h1, h2⟩ | ⟨h1, h2⟩
  · rw [h1, if_pos rfl, h2 F hF, g_bs]
  · rw [h1, if_neg (by decide), if_pos rfl, h2 F hF, g_bs]
  · rw [h1, if_neg (by decide), if_neg (by decide), h2 F hF, g_bs]
end QST
