/-! THE REFERENCE'S NAMES -/
/-- the reference's text -/
def TxR (m : gM) (b : Nat → Nat) (n : Nat) : Prop := m.2.2 62 3 = some 64 ∧ m.1 62 4 = nI n ∧ n ≤ 4000 ∧ ∀ i, i < n → b i < 256 ∧ m.1 64 i = nI (b i)
section NMR
variable {b : Nat → Nat} {n F : Nat} {m : gM}
theorem s_isSameL (h : m.2.2 62 3 = some 64 ∧ n ≤ 4000 ∧ ∀ i, i < n → b i < 256 ∧ m.1 64 i = nI (b i)) {a a' l : Nat} (h1 : a + l ≤ n) (h2 : a' + l ≤ n) : ∀ (k N i : Nat), i + k = l → k < N → (∀ j, j < i → b (a + j) = b (a' + j)) → ∃ v : Int32, l_X8_isSame_16 gSH F N 62 (nI a) (nI l) (nI a') 1 (nI i) m = some (v, m) ∧ (v = 0 ∨ v = 1) ∧ (v = 1 ↔ ∀ j, j < l → b (a + j) = b (a' + j)) := by
  obtain ⟨p3, n4, hb⟩ := h
  intro k
  induction k with
  | zero =>
    intro N i hk hN hj
    obtain ⟨N, rfl⟩ : ∃ N', N = N' + 1 := ⟨N - 1, by omega⟩
    refine ⟨1, ?_, Or.inr rfl, ⟨fun _ j hl => hj j (by omega), fun _ => rfl⟩⟩
    show b_X8_isSame_16 gSH F (l_X8_isSame_16 gSH F N) 62 (nI a) (nI l) (nI a') 1 (nI i) m = _
    unfold b_X8_isSame_16
    rw [if_neg one0, if_pos (nI_le (by omega) (by omega))]
    rfl
  | succ k ih =>
    intro N i hk hN hj
    obtain ⟨N, rfl⟩ : ∃ N', N = N' + 1 := ⟨N - 1, by omega⟩
    have e53 : ∀ y, b_X8_isSame_53 gSH F (l_X8_isSame_16 gSH F N) 62 (nI a) (nI l) (nI a') (nI i) y m = l_X8_isSame_16 gSH F N 62 (nI a) (nI l) (nI a') y (nI (i + 1)) m := fun y => by
      unfold b_X8_isSame_53
      rw [g_nmb, nI_a1]
    have e : l_X8_isSame_16 gSH F (N + 1) 62 (nI a) (nI l) (nI a') 1 (nI i) m = if b (a + i) = b (a' + i) then l_X8_isSame_16 gSH F N 62 (nI a) (nI l) (nI a') 1 (nI (i + 1)) m else l_X8_isSame_16 gSH F N 62 (nI a) (nI l) (nI a') 0 (nI (i + 1)) m := by
      show b_X8_isSame_16 gSH F (l_X8_isSame_16 gSH F N) 62 (nI a) (nI l) (nI a') 1 (nI i) m = _
      unfold b_X8_isSame_16
      rw [if_neg one0, if_neg (nI_ge (by omega) (by omega)), ob_62, g_ift, p3, g_bs, nI_add, show aB gSH 64 .int (nI (a + i)) = true from g_inI (N := 4000) (by omega) (by decide), g_ift, g_bs, nI_add, show aB gSH 64 .int (nI (a' + i)) = true from g_inI (N := 4000) (by omega) (by decide), g_ift, nI_clamp (by omega), nI_clamp (by omega), (hb (a + i) (by omega)).2, (hb (a' + i) (by omega)).2, e53, e53]
      by_cases c : b (a + i) = b (a' + i)
      · rw [if_pos c, if_pos (by rw [c])]
      · have u1 := (hb (a + i) (by omega)).1
        have u2 := (hb (a' + i) (by omega)).1
        rw [if_neg c, if_neg (fun x => c ((k_lit (by omega) (by omega)).mp x))]
    rw [e]
    by_cases c : b (a + i) = b (a' + i)
    · rw [if_pos c]
      exact ih N (i + 1) (by omega) (by omega) (fun j hj' => by
        by_cases x : j = i
        · rw [x]; exact c
        · exact hj j (by omega))
    · rw [if_neg c]
      refine ⟨0, ?_, Or.inl rfl, ⟨fun h => absurd h (by decide), fun h => absurd (h i (by omega)) c⟩⟩
      obtain ⟨N, rfl⟩ : ∃ N', N = N' + 1 := ⟨N - 1, by omega⟩
      show b_X8_isSame_16 gSH F (l_X8_isSame_16 gSH F N) 62 (nI a) (nI l) (nI a') 0 (nI (i + 1)) m = _
      unfold b_X8_isSame_16
      rw [if_pos rfl]
      rfl
theorem s_isSame (h : m.2.2 62 3 = some 64 ∧ n ≤ 4000 ∧ ∀ i, i < n → b i < 256 ∧ m.1 64 i = nI (b i)) (hF : 5000 ≤ F) {a a' l l' : Nat} (h1 : a + l ≤ n) (h2 : a' + l' ≤ n) : ∃ v : Int32, f_X8_isSame gSH F 62 (nI a) (nI l) (nI a') (nI l') m = some (v, m) ∧ (v = 0 ∨ v = 1) ∧ (v = 1 ↔ l = l' ∧ ∀ j, j < l → b (a + j) = b (a' + j)) := by
  have n4 := h.2.1
  unfold f_X8_isSame b_X8_isSame_11
  by_cases c : l = l'
  · subst c
    rw [if_pos rfl]
    obtain ⟨v, e1, e2, e3⟩ := s_isSameL (F := F) h h1 h2 l F 0 (by omega) (by omega) (fun j hj => by omega)
    exact ⟨v, e1, e2, e3.trans ⟨fun x => ⟨rfl, x⟩, fun x => x.2⟩⟩
  · rw [if_neg (fun x => c ((nI_eq (by omega) (by omega)).mp x))]
    refine ⟨0, ?_, Or.inl rfl, ⟨fun x => absurd x (by decide), fun x => absurd x.1 c⟩⟩
    obtain ⟨N, hN⟩ : ∃ N', F = N' + 1 := ⟨F - 1, by omega⟩
    have e : l_X8_isSame_16 gSH F F = l_X8_isSame_16 gSH F (N + 1) := by rw [← hN]
    rw [e]
    show b_X8_isSame_16 gSH F (l_X8_isSame_16 gSH F N) 62 (nI a) (nI l) (nI a') 0 0 m = _
    unfold b_X8_isSame_16
    rw [if_pos rfl]
    rfl
/-- y is the first of the names that is the same as token t -/
def nFst (b : Nat → Nat) (n t y : Nat) : Prop := (∃ d, d < pQ b n 0 1 ∧ y = pQ b n 4 d ∧ nSm b n y t ∧ ∀ d', d' < d → ¬ nSm b n (pQ b n 4 d') t) ∨ ((∀ d, d < pQ b n 0 1 → ¬ nSm b n (pQ b n 4 d) t) ∧ ∃ r, r < pQ b n 0 2 ∧ y = pQ b n 7 r ∧ nSm b n y t ∧ ∀ r', r' < r → ¬ nSm b n (pQ b n 7 r') t)
theorem nSm_symm {t t' : Nat} (h : nSm b n t t') : nSm b n t' t := ⟨h.1.symm, fun i hi => (h.2 i (by rw [h.1]; exact hi)).symm⟩
theorem nSm_trans {t t' t'' : Nat} (h : nSm b n t t') (g : nSm b n t' t'') : nSm b n t t'' := ⟨h.1.trans g.1, fun i hi => (h.2 i hi).trans (g.2 i (by rw [← h.1]; exact hi))⟩
theorem nFst_in (h : pOk b n) {t y : Nat} (g : nFst b n t y) : y < pE b n ∧ nSm b n y t := by
  rcases g with ⟨d, h1, rfl, h3, -⟩ | ⟨-, r, h1, rfl, h3, -⟩
  · exact ⟨(tok_d h h1).1, h3⟩
  · exact ⟨(tok_r h h1).1, h3⟩
theorem nFst_u {t t' y y' : Nat} (g : nFst b n t y) (g' : nFst b n t' y') (e : nSm b n t t') : y = y' := by
  have tr : ∀ x, nSm b n x t ↔ nSm b n x t' := fun x => ⟨fun h => nSm_trans h e, fun h => nSm_trans h (nSm_symm e)⟩
  rcases g with ⟨d, h1, rfl, h3, h4⟩ | ⟨h0, r, h1, rfl, h3, h4⟩
  · rcases g' with ⟨d', k1, rfl, k3, k4⟩ | ⟨k0, r', k1, rfl, k3, k4⟩
    · by_cases x : d < d'
      · exact absurd ((tr _).mp h3) (k4 d x)
      · by_cases z : d' < d
        · exact absurd ((tr _).mpr k3) (h4 d' z)
        · rw [show d = d' by omega]
    · exact absurd ((tr _).mp h3) (k0 d h1)
  · rcases g' with ⟨d', k1, rfl, k3, k4⟩ | ⟨k0, r', k1, rfl, k3, k4⟩
    · exact absurd ((tr _).mpr k3) (h0 d' k1)
    · by_cases x : r < r'
      · exact absurd ((tr _).mp h3) (k4 r x)
      · by_cases z : r' < r
        · exact absurd ((tr _).mpr k3) (h4 r' z)
        · rw [show r = r' by omega]
/-- equal places are equal names -/
theorem nFst_eq (h : pOk b n) {t t' y y' : Nat} (g : nFst b n t y) (g' : nFst b n t' y') : nI (kS b n y) = nI (kS b n y') ↔ nSm b n t t' := by
  obtain ⟨a1, a2⟩ := nFst_in h g
  obtain ⟨c1, c2⟩ := nFst_in h g'
  have s1 := (tok_in h a1).1
  have s2 := (tok_in h c1).1
  have n4 := h.2.1
  constructor
  · intro e
    have e' := (nI_eq (by omega) (by omega)).mp e
    have := tok_inj h a1 c1 e'
    subst this
    exact nSm_trans (nSm_symm a2) c2
  · intro e
    rw [nFst_u g g' e]
/-- the reference's program of a text -/
def RPq (b : Nat → Nat) (n : Nat) (m : gM) : Prop := RPr (kS b n) (kL b n) m (pQ b n) ∧ RPt m
theorem s_nameAt46 (h : pOk b n) (hT : m.2.2 62 3 = some 64 ∧ n ≤ 4000 ∧ ∀ i, i < n → b i < 256 ∧ m.1 64 i = nI (b i)) (hR : RPq b n m) (hF : 5000 ≤ F) {t : Nat} (ht : t < pE b n) (h0 : ∀ d, d < pQ b n 0 1 → ¬ nSm b n (pQ b n 4 d) t) (hin : ∃ r, r < pQ b n 0 2 ∧ nSm b n (pQ b n 7 r) t) : ∀ (k N x : Nat), x + k = pQ b n 0 2 → k < N → (∀ r', r' < x → ¬ nSm b n (pQ b n 7 r') t) → ∃ y, nFst b n t y ∧ l_X8_nameAt_46 gSH F N 62 (nI (kS b n t)) (nI (kL b n t)) (nI x) m = some (nI (kS b n y), m) := by
  obtain ⟨⟨⟨a1, a2, a3⟩, r1, r2, r3⟩, ⟨p8, p9, p11, p12, p13, p14, p16, p17, p18, p19⟩, -⟩ := hR
  have l2 := (pQ_ok h).1.1.1.2.2.2.1
  have tt := tok_in h ht
  intro k
  induction k with
  | zero =>
    intro N x hk hN hno
    obtain ⟨r, h1, h2⟩ := hin
    exact absurd h2 (hno r (by omega))
  | succ k ih =>
    intro N x hk hN hno
    obtain ⟨N, rfl⟩ : ∃ N', N = N' + 1 := ⟨N - 1, by omega⟩
    have hx : x < pQ b n 0 2 := by omega
    have tx := tok_in h (tok_r h hx).1
    obtain ⟨v, e1, e2, e3⟩ := s_isSame (F := F) hT hF tx.2.2 tt.2.2
    have e : l_X8_nameAt_46 gSH F (N + 1) 62 (nI (kS b n t)) (nI (kL b n t)) (nI x) m = if v = 0 then l_X8_nameAt_46 gSH F N 62 (nI (kS b n t)) (nI (kL b n t)) (nI (x + 1)) m else some (nI (kS b n (pQ b n 7 x)), m) := by
      show b_X8_nameAt_46 gSH F (l_X8_nameAt_46 gSH F N) 62 (nI (kS b n t)) (nI (kL b n t)) (nI x) m = _
      unfold b_X8_nameAt_46
      rw [ob_62, g_ift, a3, if_neg (nI_ge (by omega) (by omega)), p17, g_bs, show aB gSH 73 .int (nI x) = true from g_inI (N := 101) (by omega) (by decide), g_ift, p18, g_bs, show aB gSH 74 .int (nI x) = true from g_inI (N := 101) (by omega) (by decide), g_ift, nI_clamp (by omega), (r3 x hx).2.1, (r3 x hx).2.2.1, e1, g_bs, g_nmb, g_nmb, g_nmb, nI_a1, p17, g_bs, show aB gSH 73 .int (nI x) = true from g_inI (N := 101) (by omega) (by decide), g_ift, (r3 x hx).2.1]
    rw [e]
    by_cases c : nSm b n (pQ b n 7 x) t
    · have v1 : v = 1 := e3.mpr c
      rw [v1, if_neg one0]
      exact ⟨pQ b n 7 x, Or.inr ⟨h0, x, hx, rfl, c, hno⟩, rfl⟩
    · have v0 : v = 0 := by
        rcases e2 with z | z
        · exact z
        · exact absurd (e3.mp z) c
      rw [v0, if_pos rfl]
      exact ih N (x + 1) (by omega) (by omega) (fun r' hr' => by
        by_cases z : r' = x
        · rw [z]; exact c
        · exact hno r' (by omega))
theorem s_nameAt2 (h : pOk b n) (hT : m.2.2 62 3 = some 64 ∧ n ≤ 4000 ∧ ∀ i, i < n → b i < 256 ∧ m.1 64 i = nI (b i)) (hR : RPq b n m) (hF : 5000 ≤ F) {t : Nat} (ht : t < pE b n) (hin : (∃ d, d < pQ b n 0 1 ∧ nSm b n (pQ b n 4 d) t) ∨ ∃ r, r < pQ b n 0 2 ∧ nSm b n (pQ b n 7 r) t) : ∀ (k N x : Nat), x + k = pQ b n 0 1 → k < N → (∀ d', d' < x → ¬ nSm b n (pQ b n 4 d') t) → ∃ y, nFst b n t y ∧ l_X8_nameAt_2 gSH F N 62 (nI (kS b n t)) (nI (kL b n t)) (nI x) m = some (nI (kS b n y), m) := by
  have hR' := hR
  obtain ⟨⟨⟨a1, a2, a3⟩, r1, r2, r3⟩, ⟨p8, p9, p11, p12, p13, p14, p16, p17, p18, p19⟩, -⟩ := hR
  have l1 := (pQ_ok h).1.1.1.2.2.1
  have l2 := (pQ_ok h).1.1.1.2.2.2.1
  have tt := tok_in h ht
  intro k
  induction k with
  | zero =>
    intro N x hk hN hno
    obtain ⟨N, rfl⟩ : ∃ N', N = N' + 1 := ⟨N - 1, by omega⟩
    have h0 : ∀ d, d < pQ b n 0 1 → ¬ nSm b n (pQ b n 4 d) t := fun d hd => hno d (by omega)
    have hin' : ∃ r, r < pQ b n 0 2 ∧ nSm b n (pQ b n 7 r) t := by
      rcases hin with ⟨d, h1, h2⟩ | z
      · exact absurd h2 (h0 d h1)
      · exact z
    obtain ⟨y, y1, y2⟩ := s_nameAt46 (F := F) h hT hR' hF ht h0 hin' (pQ b n 0 2) F 0 (by omega) (by omega) (fun r' hr' => by omega)
    refine ⟨y, y1, ?_⟩
    show b_X8_nameAt_2 gSH F (l_X8_nameAt_2 gSH F N) 62 (nI (kS b n t)) (nI (kL b n t)) (nI x) m = _
    unfold b_X8_nameAt_2
    rw [ob_62, g_ift, a2, if_pos (nI_le (by omega) (by omega))]
    exact y2
  | succ k ih =>
    intro N x hk hN hno
    obtain ⟨N, rfl⟩ : ∃ N', N = N' + 1 := ⟨N - 1, by omega⟩
    have hx : x < pQ b n 0 1 := by omega
    have tx := tok_in h (tok_d h hx).1
    obtain ⟨v, e1, e2, e3⟩ := s_isSame (F := F) hT hF tx.2.2 tt.2.2
    have e : l_X8_nameAt_2 gSH F (N + 1) 62 (nI (kS b n t)) (nI (kL b n t)) (nI x) m = if v = 0 then l_X8_nameAt_2 gSH F N 62 (nI (kS b n t)) (nI (kL b n t)) (nI (x + 1)) m else some (nI (kS b n (pQ b n 4 x)), m) := by
      show b_X8_nameAt_2 gSH F (l_X8_nameAt_2 gSH F N) 62 (nI (kS b n t)) (nI (kL b n t)) (nI x) m = _
      unfold b_X8_nameAt_2
      rw [ob_62, g_ift, a2, if_neg (nI_ge (by omega) (by omega)), p12, g_bs, show aB gSH 69 .int (nI x) = true from g_inI (N := 61) (by omega) (by decide), g_ift, p13, g_bs, show aB gSH 70 .int (nI x) = true from g_inI (N := 61) (by omega) (by decide), g_ift, nI_clamp (by omega), (r2 x hx).2.1, (r2 x hx).2.2.1, e1, g_bs, g_nmb, g_nmb, g_nmb, nI_a1, p12, g_bs, show aB gSH 69 .int (nI x) = true from g_inI (N := 61) (by omega) (by decide), g_ift, (r2 x hx).2.1]
    rw [e]
    by_cases c : nSm b n (pQ b n 4 x) t
    · have v1 : v = 1 := e3.mpr c
      rw [v1, if_neg one0]
      exact ⟨pQ b n 4 x, Or.inl ⟨x, hx, rfl, c, hno⟩, rfl⟩
    · have v0 : v = 0 := by
        rcases e2 with z | z
        · exact z
        · exact absurd (e3.mp z) c
      rw [v0, if_pos rfl]
      exact ih N (x + 1) (by omega) (by omega) (fun r' hr' => by
        by_cases z : r' = x
        · rw [z]; exact c
        · exact hno r' (by omega))
theorem s_nameAt (h : pOk b n) (hT : m.2.2 62 3 = some 64 ∧ n ≤ 4000 ∧ ∀ i, i < n → b i < 256 ∧ m.1 64 i = nI (b i)) (hR : RPq b n m) (hF : 5000 ≤ F) {t : Nat} (ht : t < pE b n) (hin : (∃ d, d < pQ b n 0 1 ∧ nSm b n (pQ b n 4 d) t) ∨ ∃ r, r < pQ b n 0 2 ∧ nSm b n (pQ b n 7 r) t) : ∃ y, nFst b n t y ∧ f_X8_nameAt gSH F 62 (nI (kS b n t)) (nI (kL b n t)) m = some (nI (kS b n y), m) := by
  have l1 := (pQ_ok h).1.1.1.2.2.1
  exact s_nameAt2 h hT hR hF ht hin (pQ b n 0 1) F 0 (by omega) (by omega) (fun d hd => by omega)
/-- what nameAll leaves -/
def NMs (b : Nat → Nat) (n : Nat) (m : gM) : Prop := (∀ d, d < pQ b n 0 1 → ∃ y, nFst b n (pQ b n 4 d) y ∧ m.1 92 d = nI (kS b n y)) ∧ (∀ r, r < pQ b n 0 2 → ∃ y, nFst b n (pQ b n 7 r) y ∧ m.1 93 r = nI (kS b n y))
theorem NMs.eq (h : pOk b n) (g : NMs b n m) {r d : Nat} (hr : r < pQ b n 0 2) (hd : d < pQ b n 0 1) : m.1 92 d = m.1 93 r ↔ nkT b n r d = true := by
  obtain ⟨y, y1, y2⟩ := g.1 d hd
  obtain ⟨z, z1, z2⟩ := g.2 r hr
  rw [y2, z2, nFst_eq h y1 z1]
  unfold nkT
  rw [decide_eq_true_eq, nm_eq h (tok_d h hd).1 (tok_r h hr).1 (tok_d h hd).2 (tok_r h hr).2]
/-- only the names' rows change -/
def KN (m m' : gM) : Prop := (∀ c, c ≠ 92 → c ≠ 93 → m'.1 c = m.1 c) ∧ m'.2 = m.2
theorem KN.refl (m : gM) : KN m m := ⟨fun _ _ _ => rfl, rfl⟩
theorem KN.trans {a b c : gM} (h : KN a b) (k : KN b c) : KN a c := ⟨fun i h1 h2 => (k.1 i h1 h2).trans (h.1 i h1 h2), k.2.trans h.2⟩
theorem KN.i {m : gM} {c j : Nat} {v : Int32} (h : c = 92 ∨ c = 93) : KN m (gsI m c j v) := ⟨fun a h1 h2 => gsI_ne (by omega), rfl⟩
theorem RPq.kn {m' : gM} (h : RPq b n m) (k : KN m m') : RPq b n m' := by
  obtain ⟨h1, h2⟩ := h
  refine ⟨?_, ?_⟩
  · unfold RPr
    rw [k.1 62 (by decide) (by decide), k.1 66 (by decide) (by decide), k.1 67 (by decide) (by decide), k.1 68 (by decide) (by decide), k.1 69 (by decide) (by decide), k.1 70 (by decide) (by decide), k.1 71 (by decide) (by decide), k.1 72 (by decide) (by decide), k.1 73 (by decide) (by decide), k.1 74 (by decide) (by decide), k.1 75 (by decide) (by decide)]
    exact h1
  · unfold RPt
    rw [k.2]
    exact h2
theorem TxK.kn {m' : gM} (h : m.2.2 62 3 = some 64 ∧ n ≤ 4000 ∧ ∀ i, i < n → b i < 256 ∧ m.1 64 i = nI (b i)) (k : KN m m') : m'.2.2 62 3 = some 64 ∧ n ≤ 4000 ∧ ∀ i, i < n → b i < 256 ∧ m'.1 64 i = nI (b i) := by
  rw [k.1 64 (by decide) (by decide), k.2]
  exact h
theorem s_nameAll40 (h : pOk b n) (hF : 5000 ≤ F) : ∀ (k N x : Nat) (m : gM), x + k = pQ b n 0 2 → k < N → (m.2.2 62 3 = some 64 ∧ n ≤ 4000 ∧ ∀ i, i < n → b i < 256 ∧ m.1 64 i = nI (b i)) → RPq b n m → (m.2.2 62 52 = some 92 ∧ m.2.2 62 53 = some 93) → (∀ r, r < x → ∃ y, nFst b n (pQ b n 7 r) y ∧ m.1 93 r = nI (kS b n y)) →
    ∃ m', l_X8_nameAll_40 gSH F N 62 (nI x) m = some m' ∧ KN m m' ∧ m'.1 92 = m.1 92 ∧ ∀ r, r < pQ b n 0 2 → ∃ y, nFst b n (pQ b n 7 r) y ∧ m'.1 93 r = nI (kS b n y) := by
  have l2 := (pQ_ok h).1.1.1.2.2.2.1
  intro k
  induction k with
  | zero =>
    intro N x m hk hN hT hR hp hx
    obtain ⟨N, rfl⟩ : ∃ N', N = N' + 1 := ⟨N - 1, by omega⟩
    refine ⟨m, ?_, KN.refl m, rfl, fun r hr => hx r (by omega)⟩
    show b_X8_nameAll_40 gSH F (l_X8_nameAll_40 gSH F N) 62 (nI x) m = _
    unfold b_X8_nameAll_40
    rw [ob_62, g_ift, hR.1.1.2.2, if_pos (nI_le (by omega) (by omega))]
  | succ k ih =>
    intro N x m hk hN hT hR hp hx
    obtain ⟨N, rfl⟩ : ∃ N', N = N' + 1 := ⟨N - 1, by omega⟩
    have hxr : x < pQ b n 0 2 := by omega
    obtain ⟨⟨⟨a1, a2, a3⟩, r1, r2, r3⟩, ⟨p8, p9, p11, p12, p13, p14, p16, p17, p18, p19⟩, -⟩ := id hR
    obtain ⟨y, y1, y2⟩ := s_nameAt (F := F) h hT hR hF (tok_r h hxr).1 (Or.inr ⟨x, hxr, ⟨rfl, fun i _ => rfl⟩⟩)
    have e : l_X8_nameAll_40 gSH F (N + 1) 62 (nI x) m = l_X8_nameAll_40 gSH F N 62 (nI (x + 1)) (gsI m 93 x (nI (kS b n y))) := by
      show b_X8_nameAll_40 gSH F (l_X8_nameAll_40 gSH F N) 62 (nI x) m = _
      unfold b_X8_nameAll_40
      rw [ob_62, g_ift, a3, if_neg (nI_ge (by omega) (by omega)), hp.2, g_bs, p17, g_bs, show aB gSH 73 .int (nI x) = true from g_inI (N := 101) (by omega) (by decide), g_ift, p18, g_bs, show aB gSH 74 .int (nI x) = true from g_inI (N := 101) (by omega) (by decide), g_ift, nI_clamp (by omega), (r3 x hxr).2.1, (r3 x hxr).2.2.1, y2, g_bs, g_nmb, g_nmb, show aB gSH 93 .int (nI x) = true from g_inI (N := 101) (by omega) (by decide), g_ift, g_nmb, g_nmb, nI_a1]
    rw [e]
    have k1 : KN m (gsI m 93 x (nI (kS b n y))) := KN.i (Or.inr rfl)
    obtain ⟨m', c1, c2, c3, c4⟩ := ih N (x + 1) (gsI m 93 x (nI (kS b n y))) (by omega) (by omega) (TxK.kn hT k1) (hR.kn k1) hp (fun r hr => by
      rw [gI_1]
      by_cases c : r = x
      · rw [if_pos ⟨rfl, c⟩, c]
        exact ⟨y, y1, rfl⟩
      · rw [if_neg (by omega)]
        exact hx r (by omega))
    exact ⟨m', c1, k1.trans c2, c3.trans (gsI_ne (by decide)), c4⟩
theorem s_nameAll2 (h : pOk b n) (hF : 5000 ≤ F) : ∀ (k N x : Nat) (m : gM), x + k = pQ b n 0 1 → k < N → (m.2.2 62 3 = some 64 ∧ n ≤ 4000 ∧ ∀ i, i < n → b i < 256 ∧ m.1 64 i = nI (b i)) → RPq b n m → (m.2.2 62 52 = some 92 ∧ m.2.2 62 53 = some 93) → (∀ d, d < x → ∃ y, nFst b n (pQ b n 4 d) y ∧ m.1 92 d = nI (kS b n y)) →
    ∃ m', l_X8_nameAll_2 gSH F N 62 (nI x) m = some m' ∧ KN m m' ∧ NMs b n m' := by
  have l1 := (pQ_ok h).1.1.1.2.2.1
  have l2 := (pQ_ok h).1.1.1.2.2.2.1
  intro k
  induction k with
  | zero =>
    intro N x m hk hN hT hR hp hx
    obtain ⟨N, rfl⟩ : ∃ N', N = N' + 1 := ⟨N - 1, by omega⟩
    obtain ⟨m', c1, c2, c3, c4⟩ := s_nameAll40 (F := F) h hF (pQ b n 0 2) F 0 m (by omega) (by omega) hT hR hp (fun r hr => by omega)
    refine ⟨m', ?_, c2, fun d hd => by rw [c3]; exact hx d (by omega), c4⟩
    show b_X8_nameAll_2 gSH F (l_X8_nameAll_2 gSH F N) 62 (nI x) m = _
    unfold b_X8_nameAll_2
    rw [ob_62, g_ift, hR.1.1.2.1, if_pos (nI_le (by omega) (by omega))]
    exact c1
  | succ k ih =>
    intro N x m hk hN hT hR hp hx
    obtain ⟨N, rfl⟩ : ∃ N', N = N' + 1 := ⟨N - 1, by omega⟩
    have hxd : x < pQ b n 0 1 := by omega
    obtain ⟨⟨⟨a1, a2, a3⟩, r1, r2, r3⟩, ⟨p8, p9, p11, p12, p13, p14, p16, p17, p18, p19⟩, -⟩ := id hR
    obtain ⟨y, y1, y2⟩ := s_nameAt (F := F) h hT hR hF (tok_d h hxd).1 (Or.inl ⟨x, hxd, ⟨rfl, fun i _ => rfl⟩⟩)
    have e : l_X8_nameAll_2 gSH F (N + 1) 62 (nI x) m = l_X8_nameAll_2 gSH F N 62 (nI (x + 1)) (gsI m 92 x (nI (kS b n y))) := by
      show b_X8_nameAll_2 gSH F (l_X8_nameAll_2 gSH F N) 62 (nI x) m = _
      unfold b_X8_nameAll_2
      rw [ob_62, g_ift, a2, if_neg (nI_ge (by omega) (by omega)), hp.1, g_bs, p12, g_bs, show aB gSH 69 .int (nI x) = true from g_inI (N := 61) (by omega) (by decide), g_ift, p13, g_bs, show aB gSH 70 .int (nI x) = true from g_inI (N := 61) (by omega) (by decide), g_ift, nI_clamp (by omega), (r2 x hxd).2.1, (r2 x hxd).2.2.1, y2, g_bs, g_nmb, g_nmb, show aB gSH 92 .int (nI x) = true from g_inI (N := 61) (by omega) (by decide), g_ift, g_nmb, g_nmb, nI_a1]
    rw [e]
    have k1 : KN m (gsI m 92 x (nI (kS b n y))) := KN.i (Or.inl rfl)
    obtain ⟨m', c1, c2, c3⟩ := ih N (x + 1) (gsI m 92 x (nI (kS b n y))) (by omega) (by omega) (TxK.kn hT k1) (hR.kn k1) hp (fun r hr => by
      rw [gI_1]
      by_cases c : r = x
      · rw [if_pos ⟨rfl, c⟩, c]
        exact ⟨y, y1, rfl⟩
      · rw [if_neg (by omega)]
        exact hx r (by omega))
    exact ⟨m', c1, k1.trans c2, c3⟩
/-- nameAll -/
theorem s_nameAll (h : pOk b n) (hF : 5000 ≤ F) (hT : m.2.2 62 3 = some 64 ∧ n ≤ 4000 ∧ ∀ i, i < n → b i < 256 ∧ m.1 64 i = nI (b i)) (hR : RPq b n m) (hp : m.2.2 62 52 = some 92 ∧ m.2.2 62 53 = some 93) : ∃ m', f_X8_nameAll gSH F 62 m = some m' ∧ KN m m' ∧ NMs b n m' := by
  have l1 := (pQ_ok h).1.1.1.2.2.1
  exact s_nameAll2 h hF (pQ b n 0 1) F 0 m (by omega) (by omega) hT hR hp (fun d hd => by omega)
end NMR
