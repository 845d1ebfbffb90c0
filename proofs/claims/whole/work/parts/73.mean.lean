/-! THE REFERENCE'S QUESTIONS: every question ends, and what mean(r) finds -/
theorem bc_mono {p p' : Nat → Bool} (h : ∀ d, p d = true → p' d = true) : ∀ n, bc n p ≤ bc n p' := by
  intro n
  induction n with
  | zero => exact Nat.le_refl _
  | succ n ih =>
    unfold bc
    by_cases c : p n = true
    · rw [if_pos c, if_pos (h n c)]
      omega
    · rw [if_neg c]
      split <;> omega
theorem bc_less {p p' : Nat → Bool} {k : Nat} (h : ∀ d, p d = true → p' d = true) (h1 : p k = false) (h2 : p' k = true) : ∀ n, k < n → bc n p < bc n p' := by
  intro n hn
  have a := bc_del h2 n hn
  have b := bc_mono (p := p) (p' := fun d => p' d && decide (d ≠ k)) (fun d hd => by
    have : d ≠ k := fun e => by
      rw [e, h1] at hd
      cases hd
    simp [h d hd, this]) n
  omega
/-- statements of scopes that are not avoided -/
def mCs (q : Nat → Nat → Nat) (S : Nat → Bool) : Nat := bc (q 0 3) (fun i => !(S (q 12 i)))
theorem mCs_ins {q : Nat → Nat → Nat} {S : Nat → Bool} {i : Nat} (hi : i < q 0 3) (h : S (q 12 i) = false) : mCs q (mI S (q 12 i)) < mCs q S := by
  refine bc_less (k := i) (fun d hd => ?_) ?_ ?_ (q 0 3) hi
  · simp only [Bool.not_eq_true'] at hd ⊢
    exact (mI_f.mp hd).2
  · simp only [Bool.not_eq_false']
    exact mI_t.mpr (Or.inl rfl)
  · rw [h]
    rfl
def tIf (v l : Nat) : Nat := 100 * (v + 64 * (l + 2) + 4) + 2
def tLf (v : Nat) : Nat → Nat
  | 0 => tIf v 0 + 2
  | c + 1 => tIf v (tLf v c) + 2
def tVf : Nat → Nat
  | 0 => 65 * (tIf 0 (tLf 0 6) + 2)
  | U + 1 => 65 * (tIf (tVf U) (tLf (tVf U) 6) + 2)
def tSm : Nat → Nat
  | 0 => tVf 0
  | n + 1 => tSm n + tVf (n + 1)
theorem tSm_le : ∀ n U, U ≤ n → tVf U ≤ tSm n := by
  intro n
  induction n with
  | zero =>
    intro U h
    rw [show U = 0 by omega]
    exact Nat.le_refl _
  | succ n ih =>
    intro U h
    have e : tSm (n + 1) = tSm n + tVf (n + 1) := rfl
    by_cases c : U = n + 1
    · rw [c, e]
      exact Nat.le_add_left _ _
    · have := ih U (by omega)
      rw [e]
      omega
/-- as much fuel as every question wants -/
def fN : Nat := 5000 + tSm 100 + 1
theorem fN_5 : 5000 ≤ fN := by
  unfold fN
  generalize tSm 100 = x
  omega
section QST
variable {q : Nat → Nat → Nat} {nk : Nat → Nat → Bool} {F r : Nat} {σ : Nat → Bool}
theorem LSp.mono {S : Nat → Bool} {u nd nd' t t' : Nat} {A A' : Nat → Prop} (h : LSp q nk σ S r u nd t A) (hn : nd ≤ nd') (ht : t ≤ t') (hA : ∀ d, A d ↔ A' d) : LSp q nk σ S r u nd' t' A' := fun m Q lo hi sc ok g gs a => by
  obtain ⟨m', t⟩ := h m Q lo hi sc ⟨ok.1, by have := ok.2.1; omega, ok.2.2⟩ g gs a
  exact ⟨m', t.mono ht hA⟩
theorem ISp.mono {S : Nat → Bool} {u nd nd' t t' : Nat} {A A' : Nat → Prop} (h : ISp q nk σ S r u nd t A) (hn : nd ≤ nd') (ht : t ≤ t') (hA : ∀ d, A d ↔ A' d) : ISp q nk σ S r u nd' t' A' := fun m Q lo hi sc ok g gs a h1 => by
  obtain ⟨m', t⟩ := h m Q lo hi sc ⟨ok.1, by have := ok.2.1; omega, ok.2.2⟩ g gs a h1
  exact ⟨m', t.mono ht hA⟩
theorem qLocI {E : Nat → Nat → Prop} {S : Nat → Bool} {u : Nat} (d : Nat) : (S u = false ∧ (mH q nk r u d ∨ ((∀ d, ¬ mH q nk r u d) ∧ ∃ u', E u u' ∧ mA q nk E r (mI S u) u' d))) ↔ mA q nk E r S u d := by
  constructor
  · rintro ⟨h1, h2 | ⟨h2, h3⟩⟩
    · exact (mA_2 h1 h2).mpr h2
    · exact (mA_3 h1 h2).mpr h3
  · intro h
    have hS : S u = false := by
      cases e : S u
      · rfl
      · exact absurd h (mA_1 e)
    refine ⟨hS, ?_⟩
    by_cases c : ∃ d0, mH q nk r u d0
    · obtain ⟨d0, hd0⟩ := c
      exact Or.inl ((mA_2 hS hd0).mp h)
    · have c' : ∀ d, ¬ mH q nk r u d := fun d hd => c ⟨d, hd⟩
      exact Or.inr ⟨c', (mA_3 hS c').mp h⟩
theorem qImpA (hq : mQ q) (hF : 5000 ≤ F) (hr : r < q 0 2) {U s nd ndL tv tl : Nat} {S : Nat → Bool} (hs : s < q 0 0) (hV : ∀ r', r' < q 0 2 → σ r' = false → VSp q nk (mI σ r') r' (30 * U - 5) tv (mM q nk U (mI σ r') r')) (hL : (∃ r', r' < q 0 2 ∧ q 8 r' = s + 1) → ∀ u, u < q 0 0 → q 2 u ≠ 6 → LSp q nk σ (mI S s) r u ndL tl (mA q nk (mEd q (mM q nk U) σ) r (mI S s) u)) (n1 : 30 * U - 5 + 1 ≤ nd) (n2 : ndL + 1 ≤ nd) (n0 : 2 ≤ nd) : ISp q nk σ S r s nd (tIf tv tl) (fun d => ∃ u, mEd q (mM q nk U) σ s u ∧ mA q nk (mEd q (mM q nk U) σ) r (mI S s) u d) := by
  refine (q_imp (MV := fun r' => mM q nk U (mI σ r') r') (AL := fun u => mA q nk (mEd q (mM q nk U) σ) r (mI S s) u) hq hF hr hs (fun r' d h => mM_d h) (fun r' h1 _ h3 => hV r' h1 h3) hL n1 n2 n0).mono (Nat.le_refl _) (Nat.le_refl _) (fun d => ?_)
  constructor
  · rintro ⟨r', u, h1, h2, h3, ⟨d', h4, h5⟩, h6⟩
    exact ⟨u, ⟨r', h1, h2, h3, d', h4, h5⟩, h6⟩
  · rintro ⟨u, ⟨r', h1, h2, h3, d', h4, h5⟩, h6⟩
    exact ⟨r', u, h1, h2, h3, ⟨d', h4, h5⟩, h6⟩
theorem qLocA (hq : mQ q) (hF : 5000 ≤ F) (hr : r < q 0 2) {U tv : Nat} (hV : ∀ r', r' < q 0 2 → σ r' = false → VSp q nk (mI σ r') r' (30 * U - 5) tv (mM q nk U (mI σ r') r')) : ∀ (c : Nat) (S : Nat → Bool) (u : Nat), mCs q S ≤ c → u < q 0 0 → q 2 u ≠ 6 → LSp q nk σ S r u (30 * U + 2 * c + 7) (tLf tv c) (mA q nk (mEd q (mM q nk U) σ) r S u) := by
  intro c
  induction c with
  | zero =>
    intro S u hc hu h6
    have main := q_loc (S := S) (nd := 30 * U + 2 * 0 + 7) (ndI := 30 * U + 2 * 0 + 6) (tI := tIf tv 0) (AI := fun d => ∃ u', mEd q (mM q nk U) σ u u' ∧ mA q nk (mEd q (mM q nk U) σ) r (mI S u) u' d) hq hF hr hu (nk := nk) (σ := σ) (fun hS _ => by
      refine qImpA (ndL := 0) hq hF hr hu hV (fun ⟨r', h1, h2⟩ u' hu' h6' => ?_) (by omega) (by omega) (by omega)
      obtain ⟨i, i1, i2, i3⟩ := mStm hq h1 h6 h2
      subst i3
      have lt := mCs_ins i1 hS
      omega) (by omega) (by omega)
    exact main.mono (Nat.le_refl _) (Nat.le_refl _) (fun d => qLocI d)
  | succ c ih =>
    intro S u hc hu h6
    have main := q_loc (S := S) (nd := 30 * U + 2 * (c + 1) + 7) (ndI := 30 * U + 2 * (c + 1) + 6) (tI := tIf tv (tLf tv c)) (AI := fun d => ∃ u', mEd q (mM q nk U) σ u u' ∧ mA q nk (mEd q (mM q nk U) σ) r (mI S u) u' d) hq hF hr hu (nk := nk) (σ := σ) (fun hS _ => by
      refine qImpA (ndL := 30 * U + 2 * c + 7) hq hF hr hu hV (fun ⟨r', h1, h2⟩ u' hu' h6' => ?_) (by omega) (by omega) (by omega)
      obtain ⟨i, i1, i2, i3⟩ := mStm hq h1 h6 h2
      subst i3
      have lt := mCs_ins i1 hS
      exact ih (mI S (q 12 i)) u' (by omega) hu' h6') (by omega) (by omega)
    exact main.mono (Nat.le_refl _) (Nat.le_refl _) (fun d => qLocI d)
theorem qIA (hq : mQ q) (hF : 5000 ≤ F) (hr : r < q 0 2) {U tv : Nat} (hV : ∀ r', r' < q 0 2 → σ r' = false → VSp q nk (mI σ r') r' (30 * U - 5) tv (mM q nk U (mI σ r') r')) (S : Nat → Bool) (s : Nat) (hs : s < q 0 0) : ISp q nk σ S r s (30 * U + 20) (tIf tv (tLf tv 6)) (fun d => ∃ u, mEd q (mM q nk U) σ s u ∧ mA q nk (mEd q (mM q nk U) σ) r (mI S s) u d) := by
  have li := hq.1.1.2.2.2.2.1
  have c := bc_le (fun i => !(mI S s (q 12 i))) (q 0 3)
  exact qImpA (ndL := 30 * U + 19) hq hF hr hs hV (fun _ u hu h6 => (qLocA hq hF hr hV 6 (mI S s) u (Nat.le_trans c li) hu h6).mono (by omega) (Nat.le_refl _) (fun d => Iff.rfl)) (by omega) (by omega) (by omega)
theorem qMain (hq : mQ q) (hF : 5000 ≤ F) : ∀ (U : Nat) (σ : Nat → Bool) (r : Nat), mCt (q 0 2) σ = U → r < q 0 2 → VSp q nk σ r (30 * U + 25) (tVf U) (mM q nk (U + 1) σ r) := by
  have l0 := hq.1.1.2.1
  have go : ∀ (U tv : Nat) (σ : Nat → Bool) (r : Nat), r < q 0 2 → (∀ r', r' < q 0 2 → σ r' = false → VSp q nk (mI σ r') r' (30 * U - 5) tv (mM q nk U (mI σ r') r')) → VSp q nk σ r (30 * U + 25) (65 * (tIf tv (tLf tv 6) + 2)) (mM q nk (U + 1) σ r) := by
    intro U tv σ r hr hV m Q lo hi ok hQ g a
    have sl := (hq.1.2.2.2.1 r hr).1
    obtain ⟨m', c1, c2, c3, c4, c5, -, -⟩ := q_vis (nd := 30 * U + 25) (E := mEd q (mM q nk U) σ) hq hF hr g (fun S s hs _ => qIA hq hF hr hV S s hs) (by omega) (by omega) (q 6 r + 1) (q 6 r) m 0 (fun _ => false) 0 (by omega) sl ok a (fun x _ => bm_0 x) (fun x h => by cases h) (fun x d h => by cases h) (fun h => by omega)
    exact ⟨m', c1.mono (Nat.mul_le_mul_right _ (by omega)), c2, c3, c4, c5 hQ⟩
  intro U
  induction U with
  | zero =>
    intro σ r hU hr
    exact go 0 0 σ r hr (fun r' h1 h2 => by
      have e := mCt_ins h2 (q 0 2)
      rw [if_pos h1] at e
      omega)
  | succ U ih =>
    intro σ r hU hr
    exact go (U + 1) (tVf U) σ r hr (fun r' h1 h2 => by
      have e := mCt_ins h2 (q 0 2)
      rw [if_pos h1] at e
      have t := ih (mI σ r') r' (by omega) h1
      rw [show 30 * (U + 1) - 5 = 30 * U + 25 by omega]
      exact t)
/-- what the reference finds of reference r: the answer x, up, near -/
def RNr (q : Nat → Nat → Nat) (nk : Nat → Nat → Bool) (r : Nat) (x : Int64) (up near : Int32) : Prop := (∀ d, bm x d = true ↔ mB q nk (fun i => decide (q 15 r = i + 1)) r d) ∧ (x ≠ 0 → ∃ j, up = nI j ∧ ((∃ d, mH q nk r (anc q j (q 6 r)) d) → near = 1) ∧ ((¬ ∃ d, mH q nk r (anc q j (q 6 r)) d) → near = 0) ∧ (q 2 (q 6 r) = 6 → j = 0) ∧ (q 2 (q 6 r) ≠ 6 → ∃ d, mCn q nk (mEc q nk (fun i => decide (q 15 r = i + 1))) r j (q 6 r) d))
/-- mean(r) -/
theorem s_mean (hq : mQ q) {m : gM} (h : QS q nk m) (hr : r < q 0 2) : ∃ m', (∀ F, fN ≤ F → f_X8_mean gSH F 62 (nI r) m = some m') ∧ KB 0 m m' ∧ RNr q nk r (m'.2.1 62 65) (m'.1 62 66) (m'.1 62 67) ∧ (m'.1 62 67 = 0 ∨ m'.1 62 67 = 1) := by
  have l2 := hq.1.1.2.2.2.1
  have sl := (hq.1.2.2.2.1 r hr).1
  generalize hm1 : gsI (gsI (gsI m 62 64 0) 62 66 0) 62 67 0 = m1
  have k1 : KB 0 m m1 := by
    rw [← hm1]
    exact ((KB.i (by omega)).trans (KB.i (by omega))).trans (KB.i (by omega))
  have Q1 := h.k k1
  have f64 : m1.1 62 64 = nI 0 := by rw [← hm1]; simp [gI_1]; rfl
  have f66 : m1.1 62 66 = nI 0 := by rw [← hm1]; simp [gI_1]; rfl
  have f67 : m1.1 62 67 = 0 := by rw [← hm1]; simp [gI_1]
  obtain ⟨m2, e1, e2, e3, e5, e6, e7, e8⟩ := s_askMeans (lo := 0) (hi := 0) Q1 hq.1 (show 0 < 8000 by omega) f64 hr
  have c := mCt_le (mI (fun _ => false) r) (q 0 2)
  generalize hU : mCt (q 0 2) (mI (fun _ => false) r) = U at c
  obtain ⟨tv, hV, htv⟩ : ∃ tv, (∀ r', r' < q 0 2 → (mI (fun _ => false) r) r' = false → VSp q nk (mI (mI (fun _ => false) r) r') r' (30 * U - 5) tv (mM q nk U (mI (mI (fun _ => false) r) r') r')) ∧ 65 * (tIf tv (tLf tv 6) + 2) = tVf U := by
    cases U with
    | zero =>
      refine ⟨0, fun r' h1 h2 => ?_, rfl⟩
      have e := mCt_ins h2 (q 0 2)
      rw [if_pos h1] at e
      omega
    | succ U =>
      refine ⟨tVf U, fun r' h1 h2 => ?_, rfl⟩
      have e := mCt_ins h2 (q 0 2)
      rw [if_pos h1] at e
      have t := qMain (nk := nk) (F := 5000) hq (Nat.le_refl _) U (mI (mI (fun _ => false) r) r') r' (by omega) h1
      rw [show 30 * (U + 1) - 5 = 30 * U + 25 by omega]
      exact t
  have k2 : KB 0 m m2 := k1.trans e5
  have g0 : SgR 0 0 (fun _ => false) := fun x _ => by rw [bm_0, bm_0, ite_self]
  obtain ⟨m3, c1, c2, c3, c4, -, c6, near01⟩ := q_vis (Q := 0) (F := 5000) (nd := 30 * U + 25) (E := mEd q (mM q nk U) (mI (fun _ => false) r)) hq (Nat.le_refl _) hr (g0.ins (by omega)) (fun S s hs _ => qIA (F := 5000) hq (Nat.le_refl _) hr hV S s hs) (by omega) (by omega) (q 6 r + 1) (q 6 r) m2 0 (fun _ => false) 0 (by omega) sl ⟨h.k k2, by omega, Or.inl (by rw [e8, f67]), e2⟩ e3 (fun x _ => bm_0 x) (fun x h => by cases h) (fun x d h => by cases h) (fun _ => by rw [e7, f66])
  obtain ⟨n, hn, c1⟩ := c1
  have hn2 : n ≤ tSm 100 := by
    have l0 := hq.1.1.2.1
    have a1 : (q 6 r + 1) * (tIf tv (tLf tv 6) + 2) ≤ 65 * (tIf tv (tLf tv 6) + 2) := Nat.mul_le_mul_right _ (by omega)
    rw [htv] at a1
    exact Nat.le_trans hn (Nat.le_trans a1 (tSm_le 100 U (by omega)))
  obtain ⟨j, t1, t2⟩ := c6 rfl
  have tM : ∀ d, mC q nk (mEd q (mM q nk U) (mI (fun _ => false) r)) r (q 6 r) d ↔ mB q nk (fun i => decide (q 15 r = i + 1)) r d := fun d => by
    have a := mRoot (nk := nk) hq hr d
    rw [← a]
    show mM q nk (U + 1) (mI (fun _ => false) r) r d ↔ _
    refine mDep hq (U + 1) 200 _ _ r hr (by omega) (by omega) (fun i _ => Iff.rfl) (fun x hx => ?_) (mI_t.mpr (Or.inl rfl)) (mI_t.mpr (Or.inl rfl)) d
    have := hx.1
    exact ⟨mI_f.mpr ⟨by omega, rfl⟩, mI_f.mpr ⟨by omega, rfl⟩⟩
  refine ⟨m3, fun F hF => ?_, k2.trans c2, ⟨fun d => (c4 d).trans (tM d), fun hx => ?_⟩, near01⟩
  · have hF2 : 5000 + n + 1 ≤ F := by
      unfold fN at hF
      generalize tSm 100 = x at hF hn2
      omega
    unfold f_X8_mean
    rw [ob_62, g_ift, g_nmb, g_nmb, g_nmb, hm1, e1, g_bs]
    have e : l_X8_mean_22 gSH F F = l_X8_mean_22 gSH F ((F - n - 1 + 1) + n) := by
      congr 1
      omega
    rw [e, c1 F (by omega)]
    show b_X8_mean_22 gSH F (l_X8_mean_22 gSH F (F - n - 1)) 62 m3 = _
    unfold b_X8_mean_22
    rw [ob_62, g_ift, c3, if_pos (show nI 0 ≤ 0 by decide)]
  · obtain ⟨d0, -, hd0, -⟩ := bm_ne hx
    obtain ⟨b1, b2, b3⟩ := t2 ⟨d0, (c4 d0).mp hd0⟩
    rw [Nat.zero_add] at t1
    refine ⟨j, t1, b2, fun hn => by rw [b3 hn, e8, f67], fun hL => ?_, fun hL => ?_⟩
    · obtain ⟨d, b1⟩ := b1
      cases j with
      | zero => rfl
      | succ j => exact absurd ((hq.2.1.1 (q 6 r) sl).1 hL) b1.2.1
    · obtain ⟨d, b1⟩ := b1
      refine ⟨d, (mCn_cong (P := fun s => s < q 0 0 ∧ q 2 s ≠ 6) ?_ ?_ ?_ j (q 6 r) d ⟨sl, hL⟩).mp b1⟩
      · rintro s u hs h
        exact mEc_ok hq ((mEd_Ec (B := fun i => decide (q 15 r = i + 1)) hq (by omega) (fun i hi => by
          rw [decide_eq_true_eq]
          constructor
          · rintro ⟨x, h1, h2, h3⟩
            rcases mI_t.mp h2 with rfl | h
            · exact h3
            · cases h
          · intro h
            exact ⟨r, hr, mI_t.mpr (Or.inl rfl), h⟩) hs.2 u).mp h)
      · rintro s u hs
        exact mEd_Ec hq (by omega) (fun i hi => by
          rw [decide_eq_true_eq]
          constructor
          · rintro ⟨x, h1, h2, h3⟩
            rcases mI_t.mp h2 with rfl | h
            · exact h3
            · cases h
          · intro h
            exact ⟨r, hr, mI_t.mpr (Or.inl rfl), h⟩) hs.2 u
      · rintro s ⟨hs0, -⟩ h1
        have a := (hq.1.2.1 s hs0).1
        exact ⟨by omega, (hq.2.1.1 s hs0).2 h1⟩
/-- the rows of what the references mean -/
def RMr (q : Nat → Nat → Nat) (nk : Nat → Nat → Bool) (m : gM) : Prop := ∀ r, r < q 0 2 → RNr q nk r (m.2.1 104 r) (m.1 105 r) (m.1 106 r)
def KM (m m' : gM) : Prop := (∀ c, c ≠ 62 → ¬ (94 ≤ c ∧ c ≤ 106) → m'.1 c = m.1 c ∧ m'.2.1 c = m.2.1 c) ∧ (∀ j, j ≠ 64 → j ≠ 66 → j ≠ 67 → m'.1 62 j = m.1 62 j) ∧ m'.2.2 = m.2.2
theorem KM.of {Q : Nat} {m m' : gM} (k : KB Q m m') : KM m m' := ⟨fun c h1 h2 => ⟨by funext j; exact (k.1 c j h1 (by omega)).1, by funext j; exact (k.1 c j h1 (by omega)).2⟩, k.2.1, k.2.2.2⟩
theorem KM.trans {a b c : gM} (h : KM a b) (k : KM b c) : KM a c := ⟨fun i h1 h2 => ⟨(k.1 i h1 h2).1.trans (h.1 i h1 h2).1, (k.1 i h1 h2).2.trans (h.1 i h1 h2).2⟩, fun j h1 h2 h3 => (k.2.1 j h1 h2 h3).trans (h.2.1 j h1 h2 h3), k.2.2.trans h.2.2⟩
theorem KM.refl (m : gM) : KM m m := ⟨fun _ _ _ => ⟨rfl, rfl⟩, fun _ _ _ _ => rfl, rfl⟩
theorem QS.km {m m' : gM} (h : QS q nk m) (k : KM m m') : QS q nk m' := by
  obtain ⟨h1, h2, h3, h4, h5, h6, h7⟩ := h
  unfold QS
  rw [k.2.1 10 (by decide) (by decide) (by decide), k.2.1 15 (by decide) (by decide) (by decide), k.2.1 20 (by decide) (by decide) (by decide), (k.1 66 (by decide) (by decide)).1, (k.1 68 (by decide) (by decide)).1, (k.1 71 (by decide) (by decide)).1, (k.1 72 (by decide) (by decide)).1, (k.1 75 (by decide) (by decide)).1, (k.1 92 (by decide) (by decide)).1, (k.1 93 (by decide) (by decide)).1, k.2.2]
  exact ⟨h1, h2, h3, h4, h5, h6, h7⟩
theorem nar_b {x : Int32} (h : x = 0 ∨ x = 1) : vp_nar .boolean x = x := by
  rcases h with rfl | rfl <;> decide
theorem s_meanAllL (hq : mQ q) : ∀ (k r : Nat) (m : gM), r + k = q 0 2 → QS q nk m → (m.2.2 62 68 = some 104 ∧ m.2.2 62 69 = some 105 ∧ m.2.2 62 70 = some 106) → (∀ r', r' < r → RNr q nk r' (m.2.1 104 r') (m.1 105 r') (m.1 106 r')) →
    ∃ m', (∀ F, fN ≤ F → ∀ N, k < N → l_X8_meanAll_2 gSH F N 62 (nI r) m = some m') ∧ KM m m' ∧ RMr q nk m' := by
  have l2 := hq.1.1.2.2.2.1
  intro k
  induction k with
  | zero =>
    intro r m hk h p hR
    refine ⟨m, fun F _ N hN => ?_, KM.refl m, fun r' h' => hR r' (by omega)⟩
    obtain ⟨N, rfl⟩ : ∃ N', N = N' + 1 := ⟨N - 1, by omega⟩
    show b_X8_meanAll_2 gSH F (l_X8_meanAll_2 gSH F N) 62 (nI r) m = _
    unfold b_X8_meanAll_2
    rw [ob_62, g_ift, h.1.2.2, if_pos (nI_le (by omega) (by omega))]
  | succ k ih =>
    intro r m hk h p hR
    obtain ⟨m1, e1, k1, r1, n01⟩ := s_mean (nk := nk) hq h (show r < q 0 2 by omega)
    have p1 : m1.2.2 62 68 = some 104 ∧ m1.2.2 62 69 = some 105 ∧ m1.2.2 62 70 = some 106 := by rw [k1.2.2.2]; exact p
    generalize hm2 : gsI (gsI (gsL m1 104 r (m1.2.1 62 65)) 105 r (m1.1 62 66)) 106 r (m1.1 62 67) = m2
    have k2 : KM m m2 := by
      rw [← hm2]
      refine (KM.of k1).trans ⟨fun c h1 h2 => ⟨?_, ?_⟩, fun j h1 h2 h3 => ?_, rfl⟩
      · rw [gsI_ne (by omega), gsI_ne (by omega)]
        rfl
      · show (gsL m1 104 r (m1.2.1 62 65)).2.1 c = _
        rw [gsL_ne (by omega)]
      · simp [gI_1, gL_1]
    have v104 : ∀ r', m2.2.1 104 r' = if r' = r then m1.2.1 62 65 else m1.2.1 104 r' := fun r' => by rw [← hm2]; simp [gI_2, gL_2]
    have v105 : ∀ r', m2.1 105 r' = if r' = r then m1.1 62 66 else m1.1 105 r' := fun r' => by rw [← hm2]; simp [gI_1, gL_1]
    have v106 : ∀ r', m2.1 106 r' = if r' = r then m1.1 62 67 else m1.1 106 r' := fun r' => by rw [← hm2]; simp [gI_1, gL_1]
    have e2 : ∀ F, fN ≤ F → ∀ N, l_X8_meanAll_2 gSH F (N + 1) 62 (nI r) m = l_X8_meanAll_2 gSH F N 62 (nI (r + 1)) m2 := by
      intro F hF N
      show b_X8_meanAll_2 gSH F (l_X8_meanAll_2 gSH F N) 62 (nI r) m = _
      unfold b_X8_meanAll_2
      rw [ob_62, g_ift, h.1.2.2, if_neg (nI_ge (by omega) (by omega)), e1 F hF, g_bs, p1.1, g_bs, show aB gSH 104 .long (nI r) = true from g_inI (N := 101) (by omega) (by decide), g_ift, nI_clamp (by omega), g_nmb, show (gsL m1 104 r (m1.2.1 62 65)).2.2 62 69 = some 105 from p1.2.1, g_bs, show aB gSH 105 .int (nI r) = true from g_inI (N := 101) (by omega) (by decide), g_ift, g_nmb, show (gsI (gsL m1 104 r (m1.2.1 62 65)) 105 r ((gsL m1 104 r (m1.2.1 62 65)).1 62 66)).2.2 62 70 = some 106 from p1.2.2, g_bs, show aB gSH 106 .boolean (nI r) = true from g_inI (N := 101) (by omega) (by decide), g_ift, show (gsI (gsL m1 104 r (m1.2.1 62 65)) 105 r ((gsL m1 104 r (m1.2.1 62 65)).1 62 66)).1 62 67 = m1.1 62 67 by simp [gI_1, gL_1], nar_b n01, g_nmb, g_nmb, nI_a1, show (gsL m1 104 r (m1.2.1 62 65)).1 62 66 = m1.1 62 66 from rfl, hm2]
    obtain ⟨m3, c1, c2, c3⟩ := ih (r + 1) m2 (by omega) (h.km k2) (by rw [k2.2.2]; exact p) (fun r' hr' => by
      rw [v104, v105, v106]
      by_cases c : r' = r
      · rw [if_pos c, if_pos c, if_pos c, c]
        exact r1
      · rw [if_neg c, if_neg c, if_neg c, (k1.1 104 r' (by decide) (by omega)).2, (k1.1 105 r' (by decide) (by omega)).1, (k1.1 106 r' (by decide) (by omega)).1]
        exact hR r' (by omega))
    refine ⟨m3, fun F hF N hN => ?_, k2.trans c2, c3⟩
    obtain ⟨N, rfl⟩ : ∃ N', N = N' + 1 := ⟨N - 1, by omega⟩
    rw [e2 F hF]
    exact c1 F hF N (by omega)
/-- meanAll -/
theorem s_meanAll (hq : mQ q) {m : gM} (h : QS q nk m) (p : m.2.2 62 68 = some 104 ∧ m.2.2 62 69 = some 105 ∧ m.2.2 62 70 = some 106) : ∃ m', (∀ F, fN ≤ F → f_X8_meanAll gSH F 62 m = some m') ∧ KM m m' ∧ RMr q nk m' := by
  have l2 := hq.1.1.2.2.2.1
  obtain ⟨m', a, b, c⟩ := s_meanAllL (nk := nk) hq (q 0 2) 0 m (by omega) h p (fun r' h => by omega)
  have f5 := fN_5
  exact ⟨m', fun F hF => a F hF F (by omega), b, c⟩
end QST
