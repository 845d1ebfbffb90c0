/-! THE REFERENCE'S QUESTIONS: imports -/
def SgR (lo hi : Int64) (σ : Nat → Bool) : Prop := ∀ x, x < 100 → (if x < 50 then bm lo x else bm hi (x - 50)) = σ x
def ScR (sc : Int64) (S : Nat → Bool) : Prop := ∀ s, s < 64 → bm sc s = S s
/-- the question at Q is answered by A -/
def qE (t Q : Nat) (m m' : gM) (A : Nat → Prop) : Prop := qRn t m m' ∧ KB Q m m' ∧ m'.1 62 64 = nI Q ∧ (∀ d, bm (m'.2.1 62 65) d = true ↔ A d) ∧ m'.1 62 66 = m.1 62 66 ∧ m'.1 62 67 = m.1 62 67
def qOk (q : Nat → Nat → Nat) (nk : Nat → Nat → Bool) (Q nd : Nat) (m : gM) : Prop := QS q nk m ∧ Q + nd ≤ 8000 ∧ (m.1 62 67 = 0 ∨ m.1 62 67 = 1) ∧ m.1 62 64 = nI (Q + 1)
def VSp (q : Nat → Nat → Nat) (nk : Nat → Nat → Bool) (σ : Nat → Bool) (r nd t : Nat) (A : Nat → Prop) : Prop := ∀ m Q lo hi, qOk q nk Q nd m → 0 < Q → SgR lo hi σ → qAt m Q 0 0 (q 6 r) r lo hi 0 → ∃ m', qE t Q m m' A
def LSp (q : Nat → Nat → Nat) (nk : Nat → Nat → Bool) (σ S : Nat → Bool) (r u nd t : Nat) (A : Nat → Prop) : Prop := ∀ m Q lo hi sc, qOk q nk Q nd m → SgR lo hi σ → ScR sc S → qAt m Q 2 0 u r lo hi sc → ∃ m', qE t Q m m' A
def ISp (q : Nat → Nat → Nat) (nk : Nat → Nat → Bool) (σ S : Nat → Bool) (r s nd t : Nat) (A : Nat → Prop) : Prop := ∀ m Q lo hi sc, qOk q nk Q nd m → SgR lo hi σ → ScR sc S → qAt m Q 1 0 s r lo hi sc → m.2.1 101 Q = 0 → ∃ m', qE t Q m m' A
section QST
variable {q : Nat → Nat → Nat} {nk : Nat → Nat → Bool} {F Q r s nd : Nat} {m m' : gM} {lo hi sc : Int64} {σ S : Nat → Bool} {A : Nat → Prop}
theorem qE.pre {a : gM} {t t' : Nat} (h : qE t Q m m' A) (hr : qRn t' a m) (k : KB Q a m) (e6 : m.1 62 66 = a.1 62 66) (e7 : m.1 62 67 = a.1 62 67) : qE (t' + t) Q a m' A := ⟨hr.trans h.1, k.trans h.2.1, h.2.2.1, h.2.2.2.1, h.2.2.2.2.1.trans e6, h.2.2.2.2.2.trans e7⟩
theorem qE.mono {A' : Nat → Prop} {t t' : Nat} (h : qE t Q m m' A) (ht : t ≤ t') (e : ∀ d, A d ↔ A' d) : qE t' Q m m' A' := ⟨h.1.mono ht, h.2.1, h.2.2.1, fun d => (h.2.2.2.1 d).trans (e d), h.2.2.2.2⟩
theorem SgR.ins {x : Nat} (h : SgR lo hi σ) (hx : x < 100) : SgR (if x < 50 then lo ||| bl x else lo) (if x < 50 then hi else hi ||| bl (x - 50)) (mI σ x) := by
  intro y hy
  have e := h y hy
  unfold mI
  rw [← e]
  by_cases c1 : y < 50
  · rw [if_pos c1, if_pos c1]
    by_cases c2 : x < 50
    · rw [if_pos c2, bm_or, bm_bl (by omega), Bool.or_comm]
    · rw [if_neg c2, decide_eq_false (by omega), Bool.false_or]
  · rw [if_neg c1, if_neg c1]
    by_cases c2 : x < 50
    · rw [if_pos c2, decide_eq_false (by omega), Bool.false_or]
    · rw [if_neg c2, bm_or, bm_bl (by omega), Bool.or_comm]
      congr 1
      by_cases c3 : y = x
      · subst c3
        simp
      · rw [decide_eq_false c3, decide_eq_false (by omega)]
theorem ScR.ins {x : Nat} (h : ScR sc S) (hx : x < 64) : ScR (sc ||| bl x) (mI S x) := by
  intro y hy
  rw [bm_or, bm_bl hx, h y hy, Bool.or_comm]
  rfl
/-- the search for the next reference that imports -/
theorem i_search (h : QS q nk m) (hS : aS q) (hQ : Q < 8000) (hs : s < q 0 0) (g : SgR lo hi σ) (a : qAt m Q 1 1 s r lo hi sc) : ∀ (k x : Nat), x + k = q 0 2 → ∃ y, x ≤ y ∧ y ≤ q 0 2 ∧ (∀ F N, k < N → l_X8_imports_60 gSH F N 62 (nI Q) (nI x) m = b_X8_imports_127 gSH F 62 (nI Q) (nI y) m) ∧ (∀ r', x ≤ r' → r' < y → ¬ (q 8 r' = s + 1 ∧ σ r' = false)) ∧ (y < q 0 2 → q 8 y = s + 1 ∧ σ y = false) := by
  obtain ⟨⟨a1, a2, a3⟩, h2, h3, h4, h5, ⟨p8, p11, p14, p16, p19, p52, p53⟩, p54, p55, p56, p57, p58, p59, p60, p61, p62, p63⟩ := h
  have l0 := hS.1.2.1
  have l2 := hS.1.2.2.2.1
  have cl : (nI Q).toNatClampNeg = Q := nI_clamp (by omega)
  have i8 : inB (nI Q) 8000 = true := g_inI (by omega) (by decide)
  intro k
  induction k with
  | zero =>
    intro x hk
    refine ⟨x, Nat.le_refl _, by omega, fun F N hN => ?_, fun r' h1 h2 => by omega, fun h => by omega⟩
    obtain ⟨N, rfl⟩ : ∃ N', N = N' + 1 := ⟨N - 1, by omega⟩
    show b_X8_imports_60 gSH F (l_X8_imports_60 gSH F N) 62 (nI Q) (nI x) m = _
    unfold b_X8_imports_60
    rw [ob_62, g_ift, a3, if_pos (nI_le (by omega) (by omega))]
  | succ k ih =>
    intro x hk
    have q8 := (hS.2.2.2.1 x (by omega)).2.1
    have e8 : (nI (q 8 x) - 1 = nI s) ↔ q 8 x = s + 1 := by
      by_cases c : q 8 x = 0
      · rw [c]
        constructor
        · intro e
          exact absurd e.symm (nI_m1 (by omega))
        · intro e; omega
      · rw [nI_p1 (by omega), k_lit (by omega) (by omega)]
        omega
    have e : ∀ F N, l_X8_imports_60 gSH F (N + 1) 62 (nI Q) (nI x) m = if q 8 x = s + 1 ∧ σ x = false then b_X8_imports_127 gSH F 62 (nI Q) (nI x) m else l_X8_imports_60 gSH F N 62 (nI Q) (nI (x + 1)) m := by
      intro F N
      show b_X8_imports_60 gSH F (l_X8_imports_60 gSH F N) 62 (nI Q) (nI x) m = _
      unfold b_X8_imports_60
      have e121 : b_X8_imports_121 gSH F (l_X8_imports_60 gSH F N) 62 (nI Q) (nI x) m = l_X8_imports_60 gSH F N 62 (nI Q) (nI (x + 1)) m := by
        unfold b_X8_imports_121
        rw [g_nmb, nI_a1]
      rw [ob_62, g_ift, a3, if_neg (nI_ge (by omega) (by omega)), p19, g_bs, show aB gSH 75 .int (nI x) = true from g_inI (N := 101) (by omega) (by decide), g_ift, p56, g_bs, show aB gSH 96 .int (nI Q) = true from i8, g_ift, nI_clamp (by omega), cl, (h4 x (by omega)).2, a.2.2.1]
      by_cases c8 : q 8 x = s + 1
      rotate_left
      · rw [if_neg (fun z => c8 (e8.mp z)), if_neg (fun z => c8 z.1), e121]
      rw [if_pos (e8.mpr c8)]
      have gx := g x (by omega)
      by_cases c5 : x < 50
      · rw [if_pos c5] at gx
        rw [if_neg (show ¬ (50 : Int32) ≤ nI x from nI_ge (b := 50) (by omega) (by decide)), p58, g_bs, show aB gSH 98 .long (nI Q) = true from i8, g_ift, a.2.2.2.2.1, s_has (by omega), g_bs, g_nmb, g_nmb, gx, e121]
        cases hσ : σ x
        · rw [if_neg Bool.false_ne_true, if_pos (rfl : (0 : Int32) = 0), if_pos ⟨c8, rfl⟩]
        · rw [if_pos rfl, if_neg one0, if_neg (fun z => by cases z.2)]
      · rw [if_neg c5] at gx
        rw [if_pos (show (50 : Int32) ≤ nI x from nI_le (a := 50) (by omega) (by omega)), p59, g_bs, show aB gSH 99 .long (nI Q) = true from i8, g_ift, a.2.2.2.2.2.1, show nI x - (50 : Int32) = nI (x - 50) from pk_sub (b := 50) (by omega), s_has (by omega), g_bs, g_nmb, g_nmb, gx, e121]
        cases hσ : σ x
        · rw [if_neg Bool.false_ne_true, if_pos (rfl : (0 : Int32) = 0), if_pos ⟨c8, rfl⟩]
        · rw [if_pos rfl, if_neg one0, if_neg (fun z => by cases z.2)]
    by_cases c : q 8 x = s + 1 ∧ σ x = false
    · refine ⟨x, Nat.le_refl _, by omega, fun F N hN => ?_, fun r' h1 h2 => by omega, fun _ => c⟩
      obtain ⟨N, rfl⟩ : ∃ N', N = N' + 1 := ⟨N - 1, by omega⟩
      rw [e, if_pos c]
    · obtain ⟨y, b1, b2, b3, b4, b5⟩ := ih (x + 1) (by omega)
      refine ⟨y, by omega, b2, fun F N hN => ?_, fun r' h1 h2 => ?_, b5⟩
      · obtain ⟨N, rfl⟩ : ∃ N', N = N' + 1 := ⟨N - 1, by omega⟩
        rw [e, if_neg c]
        exact b3 F N (by omega)
      by_cases cx : r' = x
      · rw [cx]; exact c
      · exact b4 r' (by omega) h2
/-- askMeans -/
theorem s_askMeans (h : QS q nk m) (hS : aS q) (hQ : Q < 8000) (h64 : m.1 62 64 = nI Q) {y : Nat} (hy : y < q 0 2) : ∃ m', (∀ F, f_X8_askMeans gSH F 62 (nI y) lo hi m = some m') ∧ m'.1 62 64 = nI (Q + 1) ∧ qAt m' Q 0 0 (q 6 y) y (if y < 50 then lo ||| bl y else lo) (if y < 50 then hi else hi ||| bl (y - 50)) 0 ∧ KB Q m m' ∧ m'.2.1 62 = m.2.1 62 ∧ m'.1 62 66 = m.1 62 66 ∧ m'.1 62 67 = m.1 62 67 := by
  have l2 := hS.1.2.2.2.1
  have hh := h
  obtain ⟨⟨a1, a2, a3⟩, h2, h3, h4, h5, ⟨p8, p11, p14, p16, p19, p52, p53⟩, -⟩ := h
  obtain ⟨m', e1, e2, e3, e4, e5, e6, e7, e8⟩ := s_ask (r := y) (s := q 6 y) (kd := 0) (lo := if y < 50 then lo ||| bl y else lo) (hi := if y < 50 then hi else hi ||| bl (y - 50)) (sc := 0) hh hQ h64
  refine ⟨m', fun F => ?_, e2, e3, e5, e6, e7, e8⟩
  unfold f_X8_askMeans b_X8_askMeans_29 b_X8_askMeans_49
  rw [ob_62, g_ift, p16, g_bs, show aB gSH 72 .int (nI y) = true from g_inI (N := 101) (by omega) (by decide), g_ift, p53, g_bs, show aB gSH 93 .int (nI y) = true from g_inI (N := 101) (by omega) (by decide), g_ift, nI_clamp (by omega), (h4 y hy).1, g_ift]
  by_cases c : y < 50
  · rw [if_neg (show ¬ (50 : Int32) ≤ nI y from nI_ge (b := 50) (by omega) (by decide)), if_neg (show ¬ (50 : Int32) ≤ nI y from nI_ge (b := 50) (by omega) (by decide)), show lo ||| ((1 : Int64) <<< ((nI y).toInt64 &&& 63)) = (if y < 50 then lo ||| bl y else lo) by rw [if_pos c]; rfl]
    have e0 : hi = (if y < 50 then hi else hi ||| bl (y - 50)) := by rw [if_pos c]
    rw [← e0] at e1
    rw [e1, g_bs, g_ift]
  · rw [if_pos (show (50 : Int32) ≤ nI y from nI_le (a := 50) (by omega) (by omega)), if_pos (show (50 : Int32) ≤ nI y from nI_le (a := 50) (by omega) (by omega)), show nI y - (50 : Int32) = nI (y - 50) from pk_sub (b := 50) (by omega), show hi ||| ((1 : Int64) <<< ((nI (y - 50)).toInt64 &&& 63)) = (if y < 50 then hi else hi ||| bl (y - 50)) by rw [if_neg c]; rfl]
    have e0 : lo = (if y < 50 then lo ||| bl y else lo) := by rw [if_neg c]
    rw [← e0] at e1
    rw [e1, g_bs]
/-- the search for the next declaration that owns a scope -/
theorem d_search (h : QS q nk m) (hS : aS q) (hQ : Q < 8000) {op : Int64} (ho : m.2.1 102 Q = op) : ∀ (k x : Nat), x + k = q 0 1 → ∃ y, x ≤ y ∧ y ≤ q 0 1 ∧ (∀ F N, k < N → l_X8_imports_204 gSH F N 62 (nI Q) (nI x) m = b_X8_imports_240 gSH F 62 (nI Q) (nI y) m) ∧ (∀ d, x ≤ d → d < y → ¬ (bm op d = true ∧ q 5 d ≠ 0)) ∧ (y < q 0 1 → bm op y = true ∧ q 5 y ≠ 0) := by
  obtain ⟨⟨a1, a2, a3⟩, h2, h3, h4, h5, ⟨p8, p11, p14, p16, p19, p52, p53⟩, p54, p55, p56, p57, p58, p59, p60, p61, p62, p63⟩ := h
  have l0 := hS.1.2.1
  have l1 := hS.1.2.2.1
  have cl : (nI Q).toNatClampNeg = Q := nI_clamp (by omega)
  have i8 : inB (nI Q) 8000 = true := g_inI (by omega) (by decide)
  intro k
  induction k with
  | zero =>
    intro x hk
    refine ⟨x, Nat.le_refl _, by omega, fun F N hN => ?_, fun r' h1 h2 => by omega, fun h => by omega⟩
    obtain ⟨N, rfl⟩ : ∃ N', N = N' + 1 := ⟨N - 1, by omega⟩
    show b_X8_imports_204 gSH F (l_X8_imports_204 gSH F N) 62 (nI Q) (nI x) m = _
    unfold b_X8_imports_204
    rw [ob_62, g_ift, a2, if_pos (nI_le (by omega) (by omega))]
  | succ k ih =>
    intro x hk
    have q5 := (hS.2.2.1 x (by omega)).2
    have e5 : (0 ≤ nI (q 5 x) - 1) ↔ q 5 x ≠ 0 := by
      by_cases c : q 5 x = 0
      · rw [c]
        simp
        decide
      · rw [nI_p1 (by omega)]
        exact ⟨fun _ => c, fun _ => nI_pos' (by omega)⟩
    have e : ∀ F N, l_X8_imports_204 gSH F (N + 1) 62 (nI Q) (nI x) m = if bm op x = true ∧ q 5 x ≠ 0 then b_X8_imports_240 gSH F 62 (nI Q) (nI x) m else l_X8_imports_204 gSH F N 62 (nI Q) (nI (x + 1)) m := by
      intro F N
      show b_X8_imports_204 gSH F (l_X8_imports_204 gSH F N) 62 (nI Q) (nI x) m = _
      unfold b_X8_imports_204
      have e234 : b_X8_imports_234 gSH F (l_X8_imports_204 gSH F N) 62 (nI Q) (nI x) m = l_X8_imports_204 gSH F N 62 (nI Q) (nI (x + 1)) m := by
        unfold b_X8_imports_234
        rw [g_nmb, nI_a1]
      rw [ob_62, g_ift, a2, if_neg (nI_ge (by omega) (by omega)), p62, g_bs, show aB gSH 102 .long (nI Q) = true from i8, g_ift, cl, ho, s_has (by omega), g_bs, g_nmb, g_nmb, p14, g_bs, show aB gSH 71 .int (nI x) = true from g_inI (N := 61) (by omega) (by decide), g_ift, nI_clamp (by omega), (h3 x (by omega)).2, e234]
      by_cases c1 : bm op x = true
      · rw [if_pos c1, if_neg one0]
        by_cases c2 : q 5 x = 0
        · rw [if_neg (fun z => (e5.mp z) c2), if_neg (fun z => z.2 c2)]
        · rw [if_pos (e5.mpr c2), if_pos ⟨c1, c2⟩]
      · rw [if_neg c1, if_pos rfl, if_neg (fun z => c1 z.1)]
    by_cases c : bm op x = true ∧ q 5 x ≠ 0
    · refine ⟨x, Nat.le_refl _, by omega, fun F N hN => ?_, fun r' h1 h2 => by omega, fun _ => c⟩
      obtain ⟨N, rfl⟩ : ∃ N', N = N' + 1 := ⟨N - 1, by omega⟩
      rw [e, if_pos c]
    · obtain ⟨y, b1, b2, b3, b4, b5⟩ := ih (x + 1) (by omega)
      refine ⟨y, by omega, b2, fun F N hN => ?_, fun r' h1 h2 => ?_, b5⟩
      · obtain ⟨N, rfl⟩ : ∃ N', N = N' + 1 := ⟨N - 1, by omega⟩
        rw [e, if_neg c]
        exact b3 F N (by omega)
      by_cases cx : r' = x
      · rw [cx]; exact c
      · exact b4 r' (by omega) h2
end QST
