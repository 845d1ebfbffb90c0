/-! THE REFERENCE'S RENAME: the new name's number, and the names supposed -/
section RRN
variable {F : Nat} {m : gM} {b c : Nat → Nat} {n l : Nat} {g : Int64}
theorem s_isTapeL (hp : PTR m) (hb : n ≤ 4000 ∧ ∀ i, i < n → b i < 256 ∧ m.1 64 i = nI (b i)) (hc : l ≤ 4000 ∧ ∀ i, i < l → c i < 256 ∧ m.1 63 i = nI (c i)) {a : Nat} (h1 : a + l ≤ n) : ∀ (k N i : Nat), i + k = l → k + 1 < N → (∀ j, j < i → b (a + j) = c j) → ∃ v : Int32, l_X8_isTape_17 gSH F N 62 (nI a) (nI l) 1 (nI i) m = some (v, m) ∧ ((v = 1 ∧ ∀ j, j < l → b (a + j) = c j) ∨ (v = 0 ∧ ¬ ∀ j, j < l → b (a + j) = c j)) := by
  obtain ⟨n4, hb⟩ := hb
  obtain ⟨l4, hc⟩ := hc
  have p64 : m.2.2 62 3 = some 64 := hp.2.2.1.2.1
  have p63 : m.2.2 62 1 = some 63 := hp.2.2.1.1
  intro k
  induction k with
  | zero =>
    intro N i hi hN hA
    obtain ⟨N, rfl⟩ : ∃ N', N = N' + 1 := ⟨N - 1, by omega⟩
    refine ⟨1, ?_, Or.inl ⟨rfl, fun j hj => hA j (by omega)⟩⟩
    show b_X8_isTape_17 gSH F (l_X8_isTape_17 gSH F N) 62 (nI a) (nI l) 1 (nI i) m = _
    unfold b_X8_isTape_17
    rw [if_neg one0, if_pos (nI_le (by omega) (by omega)), show zB 1 = true by decide, g_ift]
  | succ k ih =>
    intro N i hi hN hA
    obtain ⟨N, rfl⟩ : ∃ N', N = N' + 1 := ⟨N - 1, by omega⟩
    have e : l_X8_isTape_17 gSH F (N + 1) 62 (nI a) (nI l) 1 (nI i) m = (if b (a + i) = c i then l_X8_isTape_17 gSH F N 62 (nI a) (nI l) 1 (nI (i + 1)) m else l_X8_isTape_17 gSH F N 62 (nI a) (nI l) 0 (nI (i + 1)) m) := by
      show b_X8_isTape_17 gSH F (l_X8_isTape_17 gSH F N) 62 (nI a) (nI l) 1 (nI i) m = _
      unfold b_X8_isTape_17 b_X8_isTape_51
      have x1 := hb (a + i) (by omega)
      have x2 := hc i (by omega)
      rw [if_neg one0, if_neg (nI_ge (by omega) (by omega)), ob_62, g_ift, p64, g_bs, nI_add, show aB gSH 64 .int (nI (a + i)) = true from g_inI (N := 4000) (by omega) (by decide), g_ift, p63, g_bs, show aB gSH 63 .int (nI i) = true from g_inI (N := 4000) (by omega) (by decide), g_ift, nI_clamp (by omega), nI_clamp (by omega), x1.2, x2.2, g_nmb, g_nmb, nI_a1]
      by_cases z : b (a + i) = c i
      · rw [if_pos (by rw [z]), if_pos z]
      · rw [if_neg (fun y => z ((nI_eq (by omega) (by omega)).mp y)), if_neg z]
    rw [e]
    by_cases z : b (a + i) = c i
    · rw [if_pos z]
      exact ih N (i + 1) (by omega) (by omega) (fun j hj => by
        by_cases y : j = i
        · rw [y]; exact z
        · exact hA j (by omega))
    · rw [if_neg z]
      refine ⟨0, ?_, Or.inr ⟨rfl, fun y => z (y i (by omega))⟩⟩
      obtain ⟨N, rfl⟩ : ∃ N', N = N' + 1 := ⟨N - 1, by omega⟩
      show b_X8_isTape_17 gSH F (l_X8_isTape_17 gSH F N) 62 (nI a) (nI l) 0 (nI (i + 1)) m = _
      unfold b_X8_isTape_17
      rw [if_pos (rfl : (0 : Int32) = 0), show zB 0 = true by decide, g_ift]
/-- is the tape's name at place a -/
def eT (b c : Nat → Nat) (l a la : Nat) : Prop := la = l ∧ ∀ j, j < l → b (a + j) = c j
theorem s_isTape (hp : PTR m) (hF : 5000 ≤ F) (hb : n ≤ 4000 ∧ ∀ i, i < n → b i < 256 ∧ m.1 64 i = nI (b i)) (h2 : m.1 62 2 = nI l) (hc : l ≤ 4000 ∧ ∀ i, i < l → c i < 256 ∧ m.1 63 i = nI (c i)) {a la : Nat} (h1 : a + la ≤ n) : ∃ v : Int32, f_X8_isTape gSH F 62 (nI a) (nI la) m = some (v, m) ∧ ((v = 1 ∧ eT b c l a la) ∨ (v = 0 ∧ ¬ eT b c l a la)) := by
  have n4 := hb.1
  have l4 := hc.1
  by_cases z : la = l
  · subst z
    obtain ⟨v, a1, a2⟩ := s_isTapeL (F := F) hp hb hc h1 la F 0 (by omega) (by omega) (fun j hj => by omega)
    refine ⟨v, ?_, ?_⟩
    · unfold f_X8_isTape b_X8_isTape_13
      rw [ob_62, g_ift, h2, if_pos rfl]
      exact a1
    · rcases a2 with ⟨x, y⟩ | ⟨x, y⟩
      · exact Or.inl ⟨x, rfl, y⟩
      · exact Or.inr ⟨x, fun w => y w.2⟩
  · refine ⟨0, ?_, Or.inr ⟨rfl, fun w => z w.1⟩⟩
    unfold f_X8_isTape b_X8_isTape_13
    rw [ob_62, g_ift, h2, if_neg (fun y => z ((nI_eq (by omega) (by omega)).mp y))]
    obtain ⟨N, hN⟩ : ∃ N', F = N' + 1 := ⟨F - 1, by omega⟩
    have e : l_X8_isTape_17 gSH F F = l_X8_isTape_17 gSH F (N + 1) := by rw [← hN]
    rw [e]
    show b_X8_isTape_17 gSH F (l_X8_isTape_17 gSH F N) 62 (nI a) (nI la) 0 0 m = _
    unfold b_X8_isTape_17
    rw [if_pos (rfl : (0 : Int32) = 0), show zB 0 = true by decide, g_ift]
/-- what the reference's rename reads -/
def RK (m : gM) (b c : Nat → Nat) (n l nD nR : Nat) (sD lD sR lR : Nat → Nat) : Prop := PTR m ∧ (n ≤ 4000 ∧ ∀ i, i < n → b i < 256 ∧ m.1 64 i = nI (b i)) ∧ m.1 62 2 = nI l ∧ (l ≤ 4000 ∧ ∀ i, i < l → c i < 256 ∧ m.1 63 i = nI (c i)) ∧ (m.1 62 15 = nI nD ∧ m.1 62 20 = nI nR ∧ m.1 62 4 = nI n) ∧ (nD ≤ 60 ∧ nR ≤ 100) ∧ (∀ d, d < nD → m.1 69 d = nI (sD d) ∧ m.1 70 d = nI (lD d) ∧ sD d + lD d ≤ n) ∧ (∀ r, r < nR → m.1 73 r = nI (sR r) ∧ m.1 74 r = nI (lR r) ∧ sR r + lR r ≤ n)
theorem RK.k {m' : gM} {nD nR : Nat} {sD lD sR lR : Nat → Nat} (h : RK m b c n l nD nR sD lD sR lR) (e1 : ∀ c, c = 63 ∨ c = 64 ∨ c = 69 ∨ c = 70 ∨ c = 73 ∨ c = 74 → m'.1 c = m.1 c) (e2 : m'.1 62 2 = m.1 62 2 ∧ m'.1 62 15 = m.1 62 15 ∧ m'.1 62 20 = m.1 62 20 ∧ m'.1 62 4 = m.1 62 4) (e3 : m'.2.2 = m.2.2) : RK m' b c n l nD nR sD lD sR lR := by
  obtain ⟨h1, h2, h3, h4, h5, h6, h7, h8⟩ := h
  refine ⟨h1.eq e3, ?_, ?_, ?_, ?_, h6, ?_, ?_⟩
  · rw [e1 64 (by omega)]; exact h2
  · rw [e2.1]; exact h3
  · rw [e1 63 (by omega)]; exact h4
  · rw [e2.2.1, e2.2.2.1, e2.2.2.2]; exact h5
  · rw [e1 69 (by omega), e1 70 (by omega)]; exact h7
  · rw [e1 73 (by omega), e1 74 (by omega)]; exact h8
section LPS
variable {nD nR : Nat} {sD lD sR lR : Nat → Nat}
theorem s_ren53 (h : RK m b c n l nD nR sD lD sR lR) (hF : 5000 ≤ F) : ∀ (k N x : Nat) (x4 : Int32), x + k = nD → k < N → ((x4 = 5000 ∧ ∀ d, d < x → ¬ eT b c l (sD d) (lD d)) ∨ (∃ d, d < nD ∧ eT b c l (sD d) (lD d) ∧ x4 = m.1 92 d)) → ∃ y4, l_X8_rename_53 gSH F N 62 g x4 0 (nI x) m = l_X8_rename_114 gSH F F 62 g y4 0 0 m ∧ ((y4 = 5000 ∧ ∀ d, d < nD → ¬ eT b c l (sD d) (lD d)) ∨ (∃ d, d < nD ∧ eT b c l (sD d) (lD d) ∧ y4 = m.1 92 d)) := by
  obtain ⟨h1, h2, h3, h4, h5, h6, h7, h8⟩ := id h
  intro k
  induction k with
  | zero =>
    intro N x x4 hx hN hI
    obtain ⟨N, rfl⟩ : ∃ N', N = N' + 1 := ⟨N - 1, by omega⟩
    refine ⟨x4, ?_, ?_⟩
    · show b_X8_rename_53 gSH F (l_X8_rename_53 gSH F N) 62 g x4 0 (nI x) m = _
      unfold b_X8_rename_53
      rw [ob_62, g_ift, h5.1, if_pos (nI_le (by omega) (by omega))]
    · rcases hI with ⟨a1, a2⟩ | a
      · exact Or.inl ⟨a1, fun d hd => a2 d (by omega)⟩
      · exact Or.inr a
  | succ k ih =>
    intro N x x4 hx hN hI
    obtain ⟨N, rfl⟩ : ∃ N', N = N' + 1 := ⟨N - 1, by omega⟩
    have hd := h7 x (by omega)
    obtain ⟨v, a1, a2⟩ := s_isTape h1 hF h2 h3 h4 hd.2.2
    have i61 : ∀ c, c = 69 ∨ c = 70 ∨ c = 92 → aB gSH c .int (nI x) = true := fun c hc => by
      rcases hc with rfl | rfl | rfl <;> exact g_inI (N := 61) (by omega) (by decide)
    have e : l_X8_rename_53 gSH F (N + 1) 62 g x4 0 (nI x) m = (if v = 0 then l_X8_rename_53 gSH F N 62 g x4 0 (nI (x + 1)) m else if x4 = 5000 then l_X8_rename_53 gSH F N 62 g (m.1 92 x) 0 (nI (x + 1)) m else l_X8_rename_53 gSH F N 62 g x4 0 (nI (x + 1)) m) := by
      show b_X8_rename_53 gSH F (l_X8_rename_53 gSH F N) 62 g x4 0 (nI x) m = _
      unfold b_X8_rename_53 b_X8_rename_101 b_X8_rename_103
      rw [ob_62, g_ift, h5.1, if_neg (nI_ge (by omega) (by omega)), h1.1.1.2.2.2.1, g_bs, i61 69 (by omega), g_ift, h1.1.1.2.2.2.2.1, g_bs, i61 70 (by omega), g_ift, nI_clamp (by omega), hd.1, hd.2.1, a1, g_bs, g_nmb, g_nmb]
      dsimp only
      rw [h1.2.2.2.1.1, g_bs, i61 92 (by omega), g_ift]
      simp only [g_nmb, nI_a1]
    rw [e]
    rcases a2 with ⟨v1, t⟩ | ⟨v0, t⟩
    · rw [v1, if_neg one0]
      by_cases z : x4 = 5000
      · rw [if_pos z]
        exact ih N (x + 1) _ (by omega) (by omega) (Or.inr ⟨x, by omega, t, rfl⟩)
      · rw [if_neg z]
        refine ih N (x + 1) _ (by omega) (by omega) (Or.inr ?_)
        rcases hI with ⟨a1, -⟩ | a
        · exact absurd a1 z
        · exact a
    · rw [v0, if_pos (rfl : (0 : Int32) = 0)]
      refine ih N (x + 1) _ (by omega) (by omega) ?_
      rcases hI with ⟨a1, a2⟩ | a
      · refine Or.inl ⟨a1, fun d hd' => ?_⟩
        by_cases y : d = x
        · rw [y]; exact t
        · exact a2 d (by omega)
      · exact Or.inr a
/-- only the rows 107 and 108 -/
def K78 (m m' : gM) : Prop := (∀ c, c ≠ 108 → m'.1 c = m.1 c) ∧ (∀ c, c ≠ 107 → m'.2.1 c = m.2.1 c) ∧ m'.2.2 = m.2.2
theorem s_ren114 (h : RK m b c n l nD nR sD lD sR lR) (hF : 5000 ≤ F) {A : Prop} {Q : Int32 → Prop} (hQ : ∀ r, r < nR → eT b c l (sR r) (lR r) → Q (m.1 93 r)) : ∀ (k N x : Nat) (x4 : Int32) (m' : gM), x + k = nR → k < N → K78 m m' → (∀ r, r < x → m'.2.1 107 r = m.2.1 104 r ∧ m'.1 108 r = (if m.2.1 104 r &&& g = 0 then 0 else 1)) → ((A ∧ x4 = 5000 ∧ ∀ r, r < x → ¬ eT b c l (sR r) (lR r)) ∨ Q x4) → ∃ y4 m2, l_X8_rename_114 gSH F N 62 g x4 0 (nI x) m' = l_X8_rename_215 gSH F F 62 g y4 0 0 m2 ∧ K78 m m2 ∧ (∀ r, r < nR → m2.2.1 107 r = m.2.1 104 r ∧ m2.1 108 r = (if m.2.1 104 r &&& g = 0 then 0 else 1)) ∧ ((A ∧ y4 = 5000 ∧ ∀ r, r < nR → ¬ eT b c l (sR r) (lR r)) ∨ Q y4) := by
  intro k
  induction k with
  | zero =>
    intro N x x4 m' hx hN K hA hI
    obtain ⟨N, rfl⟩ : ∃ N', N = N' + 1 := ⟨N - 1, by omega⟩
    refine ⟨x4, m', ?_, K, fun r hr => hA r (by omega), ?_⟩
    · show b_X8_rename_114 gSH F (l_X8_rename_114 gSH F N) 62 g x4 0 (nI x) m' = _
      unfold b_X8_rename_114
      have l2 := h.2.2.2.2.2.1.2
      rw [ob_62, g_ift, K.1 62 (by decide), h.2.2.2.2.1.2.1, if_pos (nI_le (by omega) (by omega))]
    · rcases hI with ⟨a0, a1, a2⟩ | a
      · exact Or.inl ⟨a0, a1, fun d hd => a2 d (by omega)⟩
      · exact Or.inr a
  | succ k ih =>
    intro N x x4 m' hx hN K hA hI
    obtain ⟨N, rfl⟩ : ∃ N', N = N' + 1 := ⟨N - 1, by omega⟩
    have h' : RK m' b c n l nD nR sD lD sR lR := h.k (fun c hc => K.1 c (by omega)) (by rw [K.1 62 (by decide)]; exact ⟨rfl, rfl, rfl, rfl⟩) K.2.2
    obtain ⟨h1, h2, h3, h4, h5, h6, h7, h8⟩ := id h'
    have hd := h8 x (by omega)
    obtain ⟨v, a1, a2⟩ := s_isTape h1 hF h2 h3 h4 hd.2.2
    have i101 : ∀ c, c = 73 ∨ c = 74 ∨ c = 93 → aB gSH c .int (nI x) = true := fun c hc => by
      rcases hc with rfl | rfl | rfl <;> exact g_inI (N := 101) (by omega) (by decide)
    have i104 : aB gSH 104 .long (nI x) = true := g_inI (N := 101) (by omega) (by decide)
    have i107 : aB gSH 107 .long (nI x) = true := g_inI (N := 101) (by omega) (by decide)
    have i108 : aB gSH 108 .boolean (nI x) = true := g_inI (N := 101) (by omega) (by decide)
    have cl : (nI x).toNatClampNeg = x := nI_clamp (by omega)
    have x104 : m'.2.1 104 x = m.2.1 104 x := by rw [K.2.1 104 (by decide)]
    have x93 : m'.1 93 x = m.1 93 x := by rw [K.1 93 (by decide)]
    have st : ∀ y4 : Int32, b_X8_rename_164 gSH F (l_X8_rename_114 gSH F N) 62 g 0 (nI x) y4 m' = l_X8_rename_114 gSH F N 62 g y4 0 (nI (x + 1)) (gsI (gsL m' 107 x (m.2.1 104 x)) 108 x (if m.2.1 104 x &&& g = 0 then 0 else 1)) := by
      intro y4
      unfold b_X8_rename_164 b_X8_rename_205
      have e104 : (gsL m' 107 x (m.2.1 104 x)).2.1 104 x = m.2.1 104 x := by rw [gsL_ne (by decide)]; exact x104
      simp only [ob_62, g_ift, h1.2.2.2.2.2.2.1, h1.2.2.2.2.2.2.2, h1.2.2.2.2.2.1.1, g_bs, i104, i107, i108, cl, x104, gL_3, g_nmb, nI_a1, e104]
      by_cases z : m.2.1 104 x &&& g = 0
      · rw [if_pos z, if_pos z]
        rfl
      · rw [if_neg z, if_neg z]
        rfl
    have e : l_X8_rename_114 gSH F (N + 1) 62 g x4 0 (nI x) m' = l_X8_rename_114 gSH F N 62 g (if v = 0 then x4 else if x4 = 5000 then m.1 93 x else x4) 0 (nI (x + 1)) (gsI (gsL m' 107 x (m.2.1 104 x)) 108 x (if m.2.1 104 x &&& g = 0 then 0 else 1)) := by
      show b_X8_rename_114 gSH F (l_X8_rename_114 gSH F N) 62 g x4 0 (nI x) m' = _
      unfold b_X8_rename_114 b_X8_rename_162
      rw [ob_62, g_ift, h5.2.1, if_neg (nI_ge (by omega) (by omega)), h1.1.1.2.2.2.2.2.2.2.1, g_bs, i101 73 (by omega), g_ift, h1.1.1.2.2.2.2.2.2.2.2.1, g_bs, i101 74 (by omega), g_ift, cl, hd.1, hd.2.1, a1, g_bs, g_nmb, g_nmb]
      dsimp only
      rw [h1.2.2.2.1.2, g_bs, i101 93 (by omega), g_ift, x93, st, st]
      split
      · rfl
      · split <;> rfl
    rw [e]
    have K' : K78 m (gsI (gsL m' 107 x (m.2.1 104 x)) 108 x (if m.2.1 104 x &&& g = 0 then 0 else 1)) := ⟨fun c hc => by rw [gsI_ne hc, gL_1]; exact K.1 c hc, fun c hc => by rw [gI_2, gsL_ne hc]; exact K.2.1 c hc, by rw [gI_2, gL_3]; exact K.2.2⟩
    refine ih N (x + 1) _ _ (by omega) (by omega) K' (fun r hr => ?_) ?_
    · rw [gI_2, gL_2, gI_1]
      by_cases y : r = x
      · rw [y, if_pos ⟨rfl, rfl⟩, if_pos ⟨rfl, rfl⟩]
        exact ⟨rfl, rfl⟩
      · rw [if_neg (fun w => y w.2), if_neg (fun w => y w.2)]
        exact hA r (by omega)
    · rcases a2 with ⟨v1, t⟩ | ⟨v0, t⟩
      · rw [v1, if_neg one0]
        by_cases z : x4 = 5000
        · rw [if_pos z]
          exact Or.inr (hQ x (by omega) t)
        · rw [if_neg z]
          rcases hI with ⟨-, a1, -⟩ | a
          · exact absurd a1 z
          · exact Or.inr a
      · rw [v0, if_pos (rfl : (0 : Int32) = 0)]
        rcases hI with ⟨a0, a1, a2⟩ | a
        · refine Or.inl ⟨a0, a1, fun d hd' => ?_⟩
          by_cases y : d = x
          · rw [y]; exact t
          · exact a2 d (by omega)
        · exact Or.inr a
/-- the supposed names: the declarations -/
theorem s_ren215 (h : PTR m) (h15 : m.1 62 15 = nI nD) (hD : nD ≤ 60) {x4 : Int32} : ∀ (k N x : Nat) (m' : gM), x + k = nD → k < N → KN m m' → m'.1 93 = m.1 93 → (∀ d, m'.1 92 d = if d < x ∧ bm g d = true then x4 else m.1 92 d) → ∃ m2, l_X8_rename_215 gSH F N 62 g x4 (nI (bc x (bm g))) (nI x) m' = l_X8_rename_254 gSH F F 62 g x4 (nI (bc nD (bm g))) 0 m2 ∧ KN m m2 ∧ m2.1 93 = m.1 93 ∧ (∀ d, d < nD → m2.1 92 d = if bm g d = true then x4 else m.1 92 d) := by
  intro k
  induction k with
  | zero =>
    intro N x m' hx hN K k93 hA
    obtain ⟨N, rfl⟩ : ∃ N', N = N' + 1 := ⟨N - 1, by omega⟩
    have e : x = nD := by omega
    subst e
    refine ⟨m', ?_, K, k93, fun d hd => ?_⟩
    · show b_X8_rename_215 gSH F (l_X8_rename_215 gSH F N) 62 g x4 _ (nI x) m' = _
      unfold b_X8_rename_215
      rw [ob_62, g_ift, K.1 62 (by decide) (by decide), h15, if_pos (nI_le (Nat.le_refl _) (by omega))]
    · rw [hA d]
      by_cases y : bm g d = true
      · rw [if_pos ⟨hd, y⟩, if_pos y]
      · rw [if_neg (fun w => y w.2), if_neg y]
  | succ k ih =>
    intro N x m' hx hN K k93 hA
    obtain ⟨N, rfl⟩ : ∃ N', N = N' + 1 := ⟨N - 1, by omega⟩
    have bs1 : bc (x + 1) (bm g) = bc x (bm g) + (if bm g x = true then 1 else 0) := rfl
    have p52 : m'.2.2 62 52 = some 92 := by rw [K.2]; exact h.2.2.2.1.1
    have e : l_X8_rename_215 gSH F (N + 1) 62 g x4 (nI (bc x (bm g))) (nI x) m' = l_X8_rename_215 gSH F N 62 g x4 (nI (bc (x + 1) (bm g))) (nI (x + 1)) (if bm g x = true then gsI m' 92 x x4 else m') := by
      show b_X8_rename_215 gSH F (l_X8_rename_215 gSH F N) 62 g x4 (nI (bc x (bm g))) (nI x) m' = _
      unfold b_X8_rename_215 b_X8_rename_245
      rw [ob_62, g_ift, K.1 62 (by decide) (by decide), h15, if_neg (nI_ge (by omega) (by omega)), s_has (by omega), g_bs, g_nmb, g_nmb]
      dsimp only
      rw [p52, g_bs, show aB gSH 92 .int (nI x) = true from g_inI (N := 61) (by omega) (by decide), g_ift, nI_clamp (by omega), bs1]
      simp only [g_nmb, nI_a1]
      by_cases y : bm g x = true
      · simp only [y, if_true, if_neg one0]
      · simp only [y, if_false, if_true, Bool.false_eq_true, Nat.add_zero]
    rw [e]
    by_cases y : bm g x = true
    · rw [if_pos y]
      refine ih N (x + 1) _ (by omega) (by omega) (K.trans (KN.i (Or.inl rfl))) (by rw [gsI_ne (by decide)]; exact k93) (fun d => ?_)
      rw [gI_1]
      by_cases w : d = x
      · rw [if_pos ⟨rfl, w⟩, w, if_pos ⟨by omega, y⟩]
      · rw [if_neg (fun u => w u.2), hA d]
        by_cases u : d < x ∧ bm g d = true
        · rw [if_pos u, if_pos ⟨by omega, u.2⟩]
        · rw [if_neg u, if_neg (fun v => u ⟨by omega, v.2⟩)]
    · rw [if_neg y]
      refine ih N (x + 1) _ (by omega) (by omega) K k93 (fun d => ?_)
      rw [hA d]
      by_cases u : d < x ∧ bm g d = true
      · rw [if_pos u, if_pos ⟨by omega, u.2⟩]
      · rw [if_neg u, if_neg (fun v => u ⟨by
          have : d ≠ x := fun z => y (by rw [← z]; exact v.2)
          omega, v.2⟩)]
/-- the supposed names: the references -/
theorem s_ren254 (h : PTR m) (h20 : m.1 62 20 = nI nR) (hR : nR ≤ 100) {u : Nat → Bool} (hu : ∀ r, r < nR → m.1 108 r = if u r = true then 1 else 0) {x4 : Int32} (o : Nat) : ∀ (k N x : Nat) (m' : gM), x + k = nR → k < N → KN m m' → m'.1 92 = m.1 92 → (∀ r, m'.1 93 r = if r < x ∧ u r = true then x4 else m.1 93 r) → ∃ m2, l_X8_rename_254 gSH F N 62 g x4 (nI (o + bc x u)) (nI x) m' = l_X8_rename_297 gSH F F 62 g (nI (o + bc nR u)) 1 0 m2 ∧ KN m m2 ∧ m2.1 92 = m.1 92 ∧ (∀ r, r < nR → m2.1 93 r = if u r = true then x4 else m.1 93 r) := by
  intro k
  induction k with
  | zero =>
    intro N x m' hx hN K k92 hA
    obtain ⟨N, rfl⟩ : ∃ N', N = N' + 1 := ⟨N - 1, by omega⟩
    have e : x = nR := by omega
    subst e
    refine ⟨m', ?_, K, k92, fun d hd => ?_⟩
    · show b_X8_rename_254 gSH F (l_X8_rename_254 gSH F N) 62 g x4 _ (nI x) m' = _
      unfold b_X8_rename_254
      rw [ob_62, g_ift, K.1 62 (by decide) (by decide), h20, if_pos (nI_le (Nat.le_refl _) (by omega))]
    · rw [hA d]
      by_cases y : u d = true
      · rw [if_pos ⟨hd, y⟩, if_pos y]
      · rw [if_neg (fun w => y w.2), if_neg y]
  | succ k ih =>
    intro N x m' hx hN K k92 hA
    obtain ⟨N, rfl⟩ : ∃ N', N = N' + 1 := ⟨N - 1, by omega⟩
    have bs1 : bc (x + 1) u = bc x u + (if u x = true then 1 else 0) := rfl
    have p53 : m'.2.2 62 53 = some 93 := by rw [K.2]; exact h.2.2.2.1.2
    have p72 : m'.2.2 62 72 = some 108 := by rw [K.2]; exact h.2.2.2.2.2.2.2
    have e : l_X8_rename_254 gSH F (N + 1) 62 g x4 (nI (o + bc x u)) (nI x) m' = l_X8_rename_254 gSH F N 62 g x4 (nI (o + bc (x + 1) u)) (nI (x + 1)) (if u x = true then gsI m' 93 x x4 else m') := by
      show b_X8_rename_254 gSH F (l_X8_rename_254 gSH F N) 62 g x4 (nI (o + bc x u)) (nI x) m' = _
      unfold b_X8_rename_254 b_X8_rename_285
      rw [ob_62, g_ift, K.1 62 (by decide) (by decide), h20, if_neg (nI_ge (by omega) (by omega)), p72, g_bs, show aB gSH 108 .boolean (nI x) = true from g_inI (N := 101) (by omega) (by decide), g_ift, nI_clamp (by omega), K.1 108 (by decide) (by decide), hu x (by omega), p53, g_bs, show aB gSH 93 .int (nI x) = true from g_inI (N := 101) (by omega) (by decide), g_ift, bs1]
      simp only [g_nmb, nI_a1]
      by_cases y : u x = true
      · simp only [y, if_true, if_neg one0]
        rfl
      · simp only [y, if_false, if_true, Bool.false_eq_true, Nat.add_zero]
    rw [e]
    by_cases y : u x = true
    · rw [if_pos y]
      refine ih N (x + 1) _ (by omega) (by omega) (K.trans (KN.i (Or.inr rfl))) (by rw [gsI_ne (by decide)]; exact k92) (fun d => ?_)
      rw [gI_1]
      by_cases w : d = x
      · rw [if_pos ⟨rfl, w⟩, w, if_pos ⟨by omega, y⟩]
      · rw [if_neg (fun u => w u.2), hA d]
        by_cases v : d < x ∧ u d = true
        · rw [if_pos v, if_pos ⟨by omega, v.2⟩]
        · rw [if_neg v, if_neg (fun z => v ⟨by omega, z.2⟩)]
    · rw [if_neg y]
      refine ih N (x + 1) _ (by omega) (by omega) K k92 (fun d => ?_)
      rw [hA d]
      by_cases v : d < x ∧ u d = true
      · rw [if_pos v, if_pos ⟨by omega, v.2⟩]
      · rw [if_neg v, if_neg (fun w => v ⟨by
          have : d ≠ x := fun z => y (by rw [← z]; exact w.2)
          omega, w.2⟩)]
/-- the meanings over the supposed names -/
theorem s_ren297 {q : Nat → Nat → Nat} {nk : Nat → Nat → Bool} (hq : mQ q) (hF : fN ≤ F) (x5 : Int32) : ∀ (k N r : Nat) (m : gM), r + k = q 0 2 → k + 1 < N → QS q nk m → m.2.2 62 71 = some 107 → (∀ r', r' < r → ∀ d, bm (m.2.1 107 r') d = true ↔ mB q nk (fun i => decide (q 15 r' = i + 1)) r' d) → ∃ x6 m2, l_X8_rename_297 gSH F N 62 g x5 1 (nI r) m = b_X8_rename_345 gSH F 62 g x5 x6 m2 ∧ KB 0 m m2 ∧ ((x6 = 1 ∧ ∀ r', r' < q 0 2 → ∀ d, bm (m.2.1 107 r') d = true ↔ mB q nk (fun i => decide (q 15 r' = i + 1)) r' d) ∨ (x6 = 0 ∧ ¬ ∀ r', r' < q 0 2 → ∀ d, bm (m.2.1 107 r') d = true ↔ mB q nk (fun i => decide (q 15 r' = i + 1)) r' d)) := by
  have l2 := hq.1.1.2.2.2.1
  intro k
  induction k with
  | zero =>
    intro N r m hr hN Q p71 hA
    obtain ⟨N, rfl⟩ : ∃ N', N = N' + 1 := ⟨N - 1, by omega⟩
    refine ⟨1, m, ?_, KB.refl m, Or.inl ⟨rfl, fun r' hr' => hA r' (by omega)⟩⟩
    show b_X8_rename_297 gSH F (l_X8_rename_297 gSH F N) 62 g x5 1 (nI r) m = _
    unfold b_X8_rename_297
    rw [ob_62, g_ift, Q.1.2.2, if_pos (nI_le (by omega) (by omega))]
  | succ k ih =>
    intro N r m hr hN Q p71 hA
    obtain ⟨N, rfl⟩ : ∃ N', N = N' + 1 := ⟨N - 1, by omega⟩
    obtain ⟨m1, a1, a2, a3, -⟩ := s_mean hq Q (show r < q 0 2 by omega)
    have x107 : m1.2.1 107 = m.2.1 107 := by
      funext j
      exact (a2.1 107 j (by decide) (by omega)).2
    have e : l_X8_rename_297 gSH F (N + 1) 62 g x5 1 (nI r) m = (if m1.2.1 62 65 = m.2.1 107 r then l_X8_rename_297 gSH F N 62 g x5 1 (nI (r + 1)) m1 else l_X8_rename_297 gSH F N 62 g x5 0 (nI (r + 1)) m1) := by
      show b_X8_rename_297 gSH F (l_X8_rename_297 gSH F N) 62 g x5 1 (nI r) m = _
      unfold b_X8_rename_297 b_X8_rename_337
      rw [ob_62, g_ift, Q.1.2.2, if_neg (nI_ge (by omega) (by omega)), if_neg one0, a1 F hF, g_bs, a2.2.2.2, p71, g_bs, show aB gSH 107 .long (nI r) = true from g_inI (N := 101) (by omega) (by decide), g_ift, nI_clamp (by omega), x107]
      simp only [g_nmb, nI_a1]
    rw [e]
    have iff : m1.2.1 62 65 = m.2.1 107 r ↔ ∀ d, bm (m.2.1 107 r) d = true ↔ mB q nk (fun i => decide (q 15 r = i + 1)) r d := by
      constructor
      · intro z
        rw [← z]
        exact a3.1
      · intro z
        apply bm_ext
        intro d _
        have w : bm (m1.2.1 62 65) d = true ↔ bm (m.2.1 107 r) d = true := (a3.1 d).trans (z d).symm
        cases x : bm (m1.2.1 62 65) d <;> cases y : bm (m.2.1 107 r) d
        · rfl
        · rw [w.mpr y] at x; cases x
        · rw [w.mp x] at y; cases y
        · rfl
    by_cases z : m1.2.1 62 65 = m.2.1 107 r
    · rw [if_pos z]
      obtain ⟨x6, m2, b1, b2, b3⟩ := ih N (r + 1) m1 (by omega) (by omega) (Q.k a2) (by rw [a2.2.2.2]; exact p71) (fun r' hr' => by
        rw [x107]
        by_cases y : r' = r
        · rw [y]; exact iff.mp z
        · exact hA r' (by omega))
      rw [x107] at b3
      exact ⟨x6, m2, b1, a2.trans b2, b3⟩
    · rw [if_neg z]
      refine ⟨0, m1, ?_, a2, Or.inr ⟨rfl, fun y => z (iff.mpr (y r (by omega)))⟩⟩
      obtain ⟨N, rfl⟩ : ∃ N', N = N' + 1 := ⟨N - 1, by omega⟩
      show b_X8_rename_297 gSH F (l_X8_rename_297 gSH F N) 62 g x5 0 (nI (r + 1)) m1 = _
      unfold b_X8_rename_297
      rw [ob_62, g_ift, if_pos (rfl : (0 : Int32) = 0), ite_self]
end LPS
end RRN
