/-! THE REFERENCE WRITES THE NEW TEXT -/
section BLD
variable {F : Nat} {m : gM} {b c B P : Nat → Nat} {n l la : Nat} {g : Int64} {nD nR : Nat} {sD lD sR lR : Nat → Nat} {u : Nat → Bool} {wS wI : Nat → Bool}
theorem ring1 (a D : Int32) (k : Nat) : a + nI k * D + D = a + nI (k + 1) * D := by
  have : nI (k + 1) = nI k + 1 := (nI_1 k).symm
  rw [this, Int32.add_mul, Int32.one_mul, Int32.add_assoc]
theorem s_bld16 (h : RK m b c n l nD nR sD lD sR lR) (hla : ∀ d, d < nD → bm g d = true → lD d = la) (a : Int32) : ∀ (k N x : Nat), x + k = nD → k < N → l_X8_build_16 gSH F N 62 g (a + nI (bc x (bm g)) * (nI l - nI la)) (nI x) m = l_X8_build_62 gSH F F 62 g (a + nI (bc nD (bm g)) * (nI l - nI la)) 0 m := by
  obtain ⟨h1, h2, h3, h4, h5, h6, h7, h8⟩ := h
  intro k
  induction k with
  | zero =>
    intro N x hx hN
    obtain ⟨N, rfl⟩ : ∃ N', N = N' + 1 := ⟨N - 1, by omega⟩
    show b_X8_build_16 gSH F (l_X8_build_16 gSH F N) 62 g _ (nI x) m = _
    unfold b_X8_build_16
    rw [ob_62, g_ift, h5.1, if_pos (nI_le (by omega) (by omega)), show x = nD by omega]
  | succ k ih =>
    intro N x hx hN
    obtain ⟨N, rfl⟩ : ∃ N', N = N' + 1 := ⟨N - 1, by omega⟩
    have bs1 : bc (x + 1) (bm g) = bc x (bm g) + (if bm g x = true then 1 else 0) := rfl
    have hd := h7 x (by omega)
    rw [← ih N (x + 1) (by omega) (by omega)]
    show b_X8_build_16 gSH F (l_X8_build_16 gSH F N) 62 g _ (nI x) m = _
    unfold b_X8_build_16 b_X8_build_51
    rw [ob_62, g_ift, h5.1, if_neg (nI_ge (by omega) (by omega)), s_has (by omega), g_bs, g_nmb, g_nmb]
    dsimp only
    rw [h1.1.1.2.2.2.2.1, g_bs, show aB gSH 70 .int (nI x) = true from g_inI (N := 61) (by omega) (by decide), g_ift, nI_clamp (by omega), h3, hd.2.1, bs1]
    simp only [g_nmb, nI_a1]
    by_cases y : bm g x = true
    · simp only [y, if_true, if_neg one0]
      rw [hla x (by omega) y, ring1]
    · simp only [y, if_false, if_true, Bool.false_eq_true, Nat.add_zero, Int32.add_zero]
theorem s_bld62 (h : RK m b c n l nD nR sD lD sR lR) (hu : ∀ r, r < nR → m.1 108 r = if u r = true then 1 else 0) (hla : ∀ r, r < nR → u r = true → lR r = la) (a : Int32) (o : Nat) : ∀ (k N x : Nat), x + k = nR → k < N → l_X8_build_62 gSH F N 62 g (a + nI (o + bc x u) * (nI l - nI la)) (nI x) m = (if a + nI (o + bc nR u) * (nI l - nI la) ≤ 4000 then l_X8_build_123 gSH F F 62 g 0 (gsI m 62 6 0) else some (0, m)) := by
  obtain ⟨h1, h2, h3, h4, h5, h6, h7, h8⟩ := h
  intro k
  induction k with
  | zero =>
    intro N x hx hN
    obtain ⟨N, rfl⟩ : ∃ N', N = N' + 1 := ⟨N - 1, by omega⟩
    show b_X8_build_62 gSH F (l_X8_build_62 gSH F N) 62 g _ (nI x) m = _
    unfold b_X8_build_62
    rw [ob_62, g_ift, h5.2.1, if_pos (nI_le (by omega) (by omega)), g_nmb, show x = nR by omega]
  | succ k ih =>
    intro N x hx hN
    obtain ⟨N, rfl⟩ : ∃ N', N = N' + 1 := ⟨N - 1, by omega⟩
    have bs1 : bc (x + 1) u = bc x u + (if u x = true then 1 else 0) := rfl
    have hd := h8 x (by omega)
    rw [← ih N (x + 1) (by omega) (by omega)]
    show b_X8_build_62 gSH F (l_X8_build_62 gSH F N) 62 g _ (nI x) m = _
    unfold b_X8_build_62 b_X8_build_98
    rw [ob_62, g_ift, h5.2.1, if_neg (nI_ge (by omega) (by omega)), h1.2.2.2.2.2.2.2, g_bs, show aB gSH 108 .boolean (nI x) = true from g_inI (N := 101) (by omega) (by decide), g_ift, nI_clamp (by omega), hu x (by omega), h1.1.1.2.2.2.2.2.2.2.2.1, g_bs, show aB gSH 74 .int (nI x) = true from g_inI (N := 101) (by omega) (by decide), g_ift, h3, hd.2.1, bs1]
    simp only [g_nmb, nI_a1]
    by_cases y : u x = true
    · simp only [y, if_true, if_neg one0]
      rw [hla x (by omega) y, ring1, Nat.add_assoc]
    · simp only [y, if_false, if_true, Bool.false_eq_true, Nat.add_zero, Int32.add_zero]
/-- what is written so far -/
def R65 (m : gM) (B : Nat → Nat) (k : Nat) : Prop := m.1 62 6 = nI k ∧ ∀ x, x < k → m.1 65 x = nI (B x)
def KL (m m' : gM) : Prop := (∀ c, c ≠ 62 → c ≠ 65 → m'.1 c = m.1 c) ∧ (∀ j, j ≠ 6 → m'.1 62 j = m.1 62 j) ∧ m'.2 = m.2
theorem KL.refl (m : gM) : KL m m := ⟨fun _ _ _ => rfl, fun _ _ => rfl, rfl⟩
theorem KL.trans {m1 m2 : gM} (h : KL m m1) (k : KL m1 m2) : KL m m2 := ⟨fun c a1 a2 => (k.1 c a1 a2).trans (h.1 c a1 a2), fun j hj => (k.2.1 j hj).trans (h.2.1 j hj), k.2.2.trans h.2.2⟩
theorem RK.kl {m' : gM} (h : RK m b c n l nD nR sD lD sR lR) (k : KL m m') : RK m' b c n l nD nR sD lD sR lR := h.k (fun c hc => k.1 c (by omega) (by omega)) ⟨k.2.1 2 (by decide), k.2.1 15 (by decide), k.2.1 20 (by decide), k.2.1 4 (by decide)⟩ (by rw [k.2.2])
theorem put65 {v p : Nat} (h : R65 m B p) (e : B p = v) : R65 (gsI (gsI m 65 p (nI v)) 62 6 (nI (p + 1))) B (p + 1) ∧ KL m (gsI (gsI m 65 p (nI v)) 62 6 (nI (p + 1))) := by
  refine ⟨⟨by rw [gI_1, if_pos ⟨rfl, rfl⟩], fun x hx => ?_⟩, fun c h1 h2 => by rw [gsI_ne h1, gsI_ne h2], fun j hj => by rw [gI_1, if_neg (by omega), gsI_ne (by decide)], rfl⟩
  rw [gsI_ne (by decide), gI_1]
  by_cases y : x = p
  · rw [if_pos ⟨rfl, y⟩, y, e]
  · rw [if_neg (fun z => y z.2)]
    exact h.2 x (by omega)
theorem s_bld282 {k123 : Nat → Int64 → Int32 → gM → Option (Int32 × gM)} {i p : Nat} (hB : ∀ o, o < l → B (p + o) = c o) (hp : p + l ≤ 4000) : ∀ (k N o : Nat) (m : gM), o + k = l → k < N → RK m b c n l nD nR sD lD sR lR → R65 m B (p + o) → ∃ m', l_X8_build_282 gSH F k123 N 62 g (nI i) (nI la) (nI o) m = k123 62 g (nI (i + la)) m' ∧ R65 m' B (p + l) ∧ KL m m' := by
  intro k
  induction k with
  | zero =>
    intro N o m ho hN h R
    obtain ⟨N, rfl⟩ : ∃ N', N = N' + 1 := ⟨N - 1, by omega⟩
    have l4 := h.2.2.2.1.1
    refine ⟨m, ?_, by rw [show l = o by omega]; exact R, KL.refl m⟩
    show b_X8_build_282 gSH F k123 (l_X8_build_282 gSH F k123 N) 62 g (nI i) (nI la) (nI o) m = _
    unfold b_X8_build_282 b_X8_build_330
    rw [ob_62, g_ift, h.2.2.1, if_pos (nI_le (by omega) (by omega)), g_nmb, nI_add]
  | succ k ih =>
    intro N o m ho hN h R
    obtain ⟨N, rfl⟩ : ∃ N', N = N' + 1 := ⟨N - 1, by omega⟩
    have l4 := h.2.2.2.1.1
    have co := h.2.2.2.1.2 o (by omega)
    have pt := put65 (v := c o) R (hB o (by omega))
    obtain ⟨m', a1, a2, a3⟩ := ih N (o + 1) _ (by omega) (by omega) (h.kl pt.2) (by rw [show p + (o + 1) = p + o + 1 by omega]; exact pt.1)
    refine ⟨m', ?_, a2, pt.2.trans a3⟩
    rw [← a1]
    show b_X8_build_282 gSH F k123 (l_X8_build_282 gSH F k123 N) 62 g (nI i) (nI la) (nI o) m = _
    unfold b_X8_build_282
    rw [ob_62, g_ift, h.2.2.1, if_neg (nI_ge (by omega) (by omega)), h.1.2.2.1.2.2.1, g_bs, h.1.2.2.1.1, g_bs, show aB gSH 63 .int (nI o) = true from g_inI (N := 4000) (by omega) (by decide), g_ift, R.1, show aB gSH 65 .int (nI (p + o)) = true from g_inI (N := 4800) (by omega) (by decide), g_ift, nI_clamp (by omega), nI_clamp (by omega), co.2, g_nmb, g_nmb, g_nmb, nI_a1]
    have : (gsI m 65 (p + o) (nI (c o))).1 62 6 + 1 = nI (p + o + 1) := by
      rw [gI_1, if_neg (by omega), R.1, nI_1]
    rw [this]
theorem s_bld138 {k123 : Nat → Int64 → Int32 → gM → Option (Int32 × gM)} {i : Nat} (h : RK m b c n l nD nR sD lD sR lR) (hi : i < 2 ^ 31) (hla : ∀ d, d < nD → bm g d = true → lD d = la) : ∀ (k N x : Nat) (x5 : Int32), x + k = nD → k < N → ((x5 = 0 ∧ ∀ d, d < x → ¬ (sD d = i ∧ bm g d = true)) ∨ (x5 = nI la ∧ ∃ d, d < nD ∧ sD d = i ∧ bm g d = true)) → ∃ y5, l_X8_build_138 gSH F k123 N 62 g (nI i) x5 (nI x) m = l_X8_build_191 gSH F k123 F 62 g (nI i) y5 0 m ∧ ((y5 = 0 ∧ ∀ d, d < nD → ¬ (sD d = i ∧ bm g d = true)) ∨ (y5 = nI la ∧ ∃ d, d < nD ∧ sD d = i ∧ bm g d = true)) := by
  obtain ⟨h1, h2, h3, h4, h5, h6, h7, h8⟩ := h
  have n4 := h2.1
  intro k
  induction k with
  | zero =>
    intro N x x5 hx hN hI
    obtain ⟨N, rfl⟩ : ∃ N', N = N' + 1 := ⟨N - 1, by omega⟩
    refine ⟨x5, ?_, ?_⟩
    · show b_X8_build_138 gSH F k123 (l_X8_build_138 gSH F k123 N) 62 g (nI i) x5 (nI x) m = _
      unfold b_X8_build_138
      rw [ob_62, g_ift, h5.1, if_pos (nI_le (by omega) (by omega))]
    · rcases hI with ⟨a1, a2⟩ | a
      · exact Or.inl ⟨a1, fun d hd => a2 d (by omega)⟩
      · exact Or.inr a
  | succ k ih =>
    intro N x x5 hx hN hI
    obtain ⟨N, rfl⟩ : ∃ N', N = N' + 1 := ⟨N - 1, by omega⟩
    have hd := h7 x (by omega)
    have e : l_X8_build_138 gSH F k123 (N + 1) 62 g (nI i) x5 (nI x) m = (if bm g x = true then (if sD x = i then l_X8_build_138 gSH F k123 N 62 g (nI i) (nI (lD x)) (nI (x + 1)) m else l_X8_build_138 gSH F k123 N 62 g (nI i) x5 (nI (x + 1)) m) else l_X8_build_138 gSH F k123 N 62 g (nI i) x5 (nI (x + 1)) m) := by
      show b_X8_build_138 gSH F k123 (l_X8_build_138 gSH F k123 N) 62 g (nI i) x5 (nI x) m = _
      unfold b_X8_build_138 b_X8_build_178 b_X8_build_180
      rw [ob_62, g_ift, h5.1, if_neg (nI_ge (by omega) (by omega)), s_has (by omega), g_bs, g_nmb, g_nmb]
      dsimp only
      rw [h1.1.1.2.2.2.1, g_bs, show aB gSH 69 .int (nI x) = true from g_inI (N := 61) (by omega) (by decide), g_ift, nI_clamp (by omega), hd.1, h1.1.1.2.2.2.2.1, g_bs, show aB gSH 70 .int (nI x) = true from g_inI (N := 61) (by omega) (by decide), g_ift, hd.2.1]
      simp only [g_nmb, nI_a1]
      by_cases y : bm g x = true
      · simp only [y, if_true, if_neg one0]
        by_cases z : sD x = i
        · rw [if_pos (by rw [z]), if_pos z]
        · rw [if_neg (fun w => z ((nI_eq (by omega) hi).mp w)), if_neg z]
      · simp only [y, if_false, if_true, Bool.false_eq_true]
    rw [e]
    by_cases y : bm g x = true
    · rw [if_pos y]
      by_cases z : sD x = i
      · rw [if_pos z, hla x (by omega) y]
        exact ih N (x + 1) _ (by omega) (by omega) (Or.inr ⟨rfl, x, by omega, z, y⟩)
      · rw [if_neg z]
        refine ih N (x + 1) _ (by omega) (by omega) ?_
        rcases hI with ⟨a1, a2⟩ | a
        · refine Or.inl ⟨a1, fun d hd' => ?_⟩
          by_cases w : d = x
          · rw [w]; exact fun v => z v.1
          · exact a2 d (by omega)
        · exact Or.inr a
    · rw [if_neg y]
      refine ih N (x + 1) _ (by omega) (by omega) ?_
      rcases hI with ⟨a1, a2⟩ | a
      · refine Or.inl ⟨a1, fun d hd' => ?_⟩
        by_cases w : d = x
        · rw [w]; exact fun v => y v.2
        · exact a2 d (by omega)
      · exact Or.inr a
theorem s_bld191 {k123 : Nat → Int64 → Int32 → gM → Option (Int32 × gM)} {i p : Nat} (h : RK m b c n l nD nR sD lD sR lR) (hi : i < n) (R : R65 m B p) (hp : p < 4800) (hu : ∀ r, r < nR → m.1 108 r = if u r = true then 1 else 0) (hla : ∀ r, r < nR → u r = true → lR r = la) (hl0 : 1 ≤ la) (hl1 : la ≤ 12) {A : Prop} : ∀ (k N x : Nat) (x5 : Int32), x + k = nR → k < N → ((x5 = 0 ∧ ¬ A ∧ ∀ d, d < x → ¬ (sR d = i ∧ u d = true)) ∨ (x5 = nI la ∧ (A ∨ ∃ d, d < nR ∧ sR d = i ∧ u d = true))) → (l_X8_build_191 gSH F k123 N 62 g (nI i) x5 (nI x) m = k123 62 g (nI (i + 1)) (gsI (gsI m 65 p (nI (b i))) 62 6 (nI (p + 1))) ∧ ¬ A ∧ ¬ ∃ d, d < nR ∧ sR d = i ∧ u d = true) ∨ (l_X8_build_191 gSH F k123 N 62 g (nI i) x5 (nI x) m = l_X8_build_282 gSH F k123 F 62 g (nI i) (nI la) 0 m ∧ (A ∨ ∃ d, d < nR ∧ sR d = i ∧ u d = true)) := by
  obtain ⟨h1, h2, h3, h4, h5, h6, h7, h8⟩ := h
  have n4 := h2.1
  intro k
  induction k with
  | zero =>
    intro N x x5 hx hN hI
    obtain ⟨N, rfl⟩ : ∃ N', N = N' + 1 := ⟨N - 1, by omega⟩
    have st : l_X8_build_191 gSH F k123 (N + 1) 62 g (nI i) x5 (nI x) m = (if x5 = 0 then k123 62 g (nI (i + 1)) (gsI (gsI m 65 p (nI (b i))) 62 6 (nI (p + 1))) else l_X8_build_282 gSH F k123 F 62 g (nI i) x5 0 m) := by
      show b_X8_build_191 gSH F k123 (l_X8_build_191 gSH F k123 N) 62 g (nI i) x5 (nI x) m = _
      unfold b_X8_build_191 b_X8_build_330
      rw [ob_62, g_ift, h5.2.1, if_pos (nI_le (by omega) (by omega)), h1.2.2.1.2.2.1, g_bs, h1.2.2.1.2.1, g_bs, show aB gSH 64 .int (nI i) = true from g_inI (N := 4000) (by omega) (by decide), g_ift, R.1, show aB gSH 65 .int (nI p) = true from g_inI (N := 4800) (by omega) (by decide), g_ift, nI_clamp (by omega), nI_clamp (by omega), (h2.2 i hi).2, g_nmb, g_nmb, g_nmb, nI_a1]
      have : (gsI m 65 p (nI (b i))).1 62 6 + 1 = nI (p + 1) := by
        rw [gI_1, if_neg (by omega), R.1, nI_1]
      rw [this]
    rcases hI with ⟨a1, a2, a3⟩ | ⟨a1, a2⟩
    · refine Or.inl ⟨by rw [st, if_pos a1], a2, fun ⟨d, w1, w2⟩ => a3 d (by omega) w2⟩
    · refine Or.inr ⟨?_, a2⟩
      rw [st, a1, if_neg (show ¬ nI la = 0 from fun z => by have := (nI_eq (b := 0) (by omega) (by omega)).mp z; omega)]
  | succ k ih =>
    intro N x x5 hx hN hI
    obtain ⟨N, rfl⟩ : ∃ N', N = N' + 1 := ⟨N - 1, by omega⟩
    have hd := h8 x (by omega)
    have e : l_X8_build_191 gSH F k123 (N + 1) 62 g (nI i) x5 (nI x) m = (if u x = true then (if sR x = i then l_X8_build_191 gSH F k123 N 62 g (nI i) (nI (lR x)) (nI (x + 1)) m else l_X8_build_191 gSH F k123 N 62 g (nI i) x5 (nI (x + 1)) m) else l_X8_build_191 gSH F k123 N 62 g (nI i) x5 (nI (x + 1)) m) := by
      show b_X8_build_191 gSH F k123 (l_X8_build_191 gSH F k123 N) 62 g (nI i) x5 (nI x) m = _
      unfold b_X8_build_191 b_X8_build_232 b_X8_build_234
      rw [ob_62, g_ift, h5.2.1, if_neg (nI_ge (by omega) (by omega)), h1.2.2.2.2.2.2.2, g_bs, show aB gSH 108 .boolean (nI x) = true from g_inI (N := 101) (by omega) (by decide), g_ift, nI_clamp (n := x) (by omega), hu x (by omega), h1.1.1.2.2.2.2.2.2.2.1, g_bs, show aB gSH 73 .int (nI x) = true from g_inI (N := 101) (by omega) (by decide), g_ift, hd.1, h1.1.1.2.2.2.2.2.2.2.2.1, g_bs, show aB gSH 74 .int (nI x) = true from g_inI (N := 101) (by omega) (by decide), g_ift, hd.2.1]
      simp only [g_nmb, nI_a1]
      by_cases y : u x = true
      · simp only [y, if_true, if_neg one0]
        by_cases z : sR x = i
        · rw [if_pos (by rw [z]), if_pos z]
        · rw [if_neg (fun w => z ((nI_eq (by omega) (by omega)).mp w)), if_neg z]
      · simp only [y, if_false, if_true, Bool.false_eq_true]
    rw [e]
    have keep : ¬ (sR x = i ∧ u x = true) → ((x5 = 0 ∧ ¬ A ∧ ∀ d, d < x + 1 → ¬ (sR d = i ∧ u d = true)) ∨ (x5 = nI la ∧ (A ∨ ∃ d, d < nR ∧ sR d = i ∧ u d = true))) := fun z => by
      rcases hI with ⟨a1, a2, a3⟩ | a
      · refine Or.inl ⟨a1, a2, fun d hd' => ?_⟩
        by_cases w : d = x
        · rw [w]; exact z
        · exact a3 d (by omega)
      · exact Or.inr a
    by_cases y : u x = true
    · rw [if_pos y]
      by_cases z : sR x = i
      · rw [if_pos z, hla x (by omega) y]
        exact ih N (x + 1) _ (by omega) (by omega) (Or.inr ⟨rfl, Or.inr ⟨x, by omega, z, y⟩⟩)
      · rw [if_neg z]
        exact ih N (x + 1) _ (by omega) (by omega) (keep (fun w => z w.1))
    · rw [if_neg y]
      exact ih N (x + 1) _ (by omega) (by omega) (keep (fun w => y w.2))
theorem WP.jump (W : WP b n l la wS wI P B c) {i : Nat} (hi : wS i = true) : ∀ o, o + 1 ≤ la → P (i + (o + 1)) = P i + l := by
  intro o
  induction o with
  | zero =>
    intro _
    have := W.2.1 i
    rw [if_pos hi] at this
    exact this
  | succ o ih =>
    intro ho
    have a := W.2.1 (i + (o + 1))
    have wi : wI (i + (o + 1)) = true := (W.2.2.2.2.1 _).mpr ⟨i, by omega, hi, by omega⟩
    have ws : ¬ wS (i + (o + 1)) = true := fun z => by
      have := W.2.2.2.2.2.1 i _ hi z (by omega)
      omega
    rw [if_neg ws, if_pos wi, ih (by omega)] at a
    exact a
theorem s_bld123 (W : WP b n l la wS wI P B c) (hF : 5000 ≤ F) (hl0 : 1 ≤ la) (hend : ∀ s, wS s = true → s + la ≤ n) (hlD : ∀ d, d < nD → bm g d = true → lD d = la) (hlR : ∀ r, r < nR → u r = true → lR r = la) (hS : ∀ i, wS i = true ↔ ((∃ d, d < nD ∧ sD d = i ∧ bm g d = true) ∨ ∃ r, r < nR ∧ sR r = i ∧ u r = true)) : ∀ (k N i : Nat) (m : gM), n ≤ i + k → k < N → i ≤ n → wI i = false → RK m b c n l nD nR sD lD sR lR → (∀ r, r < nR → m.1 108 r = if u r = true then 1 else 0) → R65 m B (P i) → ∃ m', l_X8_build_123 gSH F N 62 g (nI i) m = some (1, m') ∧ R65 m' B (P n) ∧ KL m m' := by
  obtain ⟨w1, w2, w3, w4, w5, w6, w7, w8, w9, w10, w11, w12⟩ := id W
  intro k
  induction k with
  | zero =>
    intro N i m hk hN hi wi h hu R
    obtain ⟨N, rfl⟩ : ∃ N', N = N' + 1 := ⟨N - 1, by omega⟩
    refine ⟨m, ?_, by rw [show n = i by omega]; exact R, KL.refl m⟩
    show b_X8_build_123 gSH F (l_X8_build_123 gSH F N) 62 g (nI i) m = _
    unfold b_X8_build_123
    rw [ob_62, g_ift, h.2.2.2.2.1.2.2, if_pos (nI_le (by omega) (by omega))]
  | succ k ih =>
    intro N i m hk hN hi wi h hu R
    obtain ⟨N, rfl⟩ : ∃ N', N = N' + 1 := ⟨N - 1, by omega⟩
    by_cases e : i = n
    · refine ⟨m, ?_, by rw [← e]; exact R, KL.refl m⟩
      show b_X8_build_123 gSH F (l_X8_build_123 gSH F N) 62 g (nI i) m = _
      unfold b_X8_build_123
      rw [ob_62, g_ift, h.2.2.2.2.1.2.2, if_pos (nI_le (by omega) (by omega))]
    · have lt : i < n := by omega
      have pn : P (i + 1) ≤ P n := W.mo (by omega)
      have p1 := w2 i
      have nD60 := h.2.2.2.2.2.1.1
      have nR100 := h.2.2.2.2.2.1.2
      have st : l_X8_build_123 gSH F (N + 1) 62 g (nI i) m = l_X8_build_138 gSH F (l_X8_build_123 gSH F N) F 62 g (nI i) 0 0 m := by
        show b_X8_build_123 gSH F (l_X8_build_123 gSH F N) 62 g (nI i) m = _
        unfold b_X8_build_123
        rw [ob_62, g_ift, h.2.2.2.2.1.2.2, if_neg (nI_ge (by omega) (by omega))]
      obtain ⟨y5, a1, a2⟩ := s_bld138 (F := F) (k123 := l_X8_build_123 gSH F N) (i := i) h (by omega) hlD nD F 0 0 (by omega) (by omega) (Or.inl ⟨rfl, fun d hd => by omega⟩)
      have a1' : l_X8_build_138 gSH F (l_X8_build_123 gSH F N) F 62 g (nI i) 0 0 m = _ := a1
      have a2' : (y5 = 0 ∧ ¬ (∃ d, d < nD ∧ sD d = i ∧ bm g d = true) ∧ ∀ d, d < 0 → ¬ (sR d = i ∧ u d = true)) ∨ (y5 = nI la ∧ ((∃ d, d < nD ∧ sD d = i ∧ bm g d = true) ∨ ∃ d, d < nR ∧ sR d = i ∧ u d = true)) := by
        rcases a2 with ⟨x1, x2⟩ | ⟨x1, x2⟩
        · exact Or.inl ⟨x1, fun ⟨d, q1, q2⟩ => x2 d q1 q2, fun d hd => absurd hd (Nat.not_lt_zero _)⟩
        · exact Or.inr ⟨x1, Or.inl x2⟩
      have t := s_bld191 (F := F) (k123 := l_X8_build_123 gSH F N) (g := g) h lt R (by clear a2 a2'; omega) hu hlR hl0 w12 (A := ∃ d, d < nD ∧ sD d = i ∧ bm g d = true) nR F 0 y5 (by omega) (by omega) a2'
      clear a2 a2'
      rcases t with ⟨b1, b2, b3⟩ | ⟨b1, b2⟩
      · have ws : wS i = false := by
          cases z : wS i
          · rfl
          · exact absurd ((hS i).mp z) (fun y => y.elim b2 b3)
        clear b2 b3
        rw [ws, wi, if_neg (by decide), if_neg (by decide)] at p1
        have pt := put65 (v := b i) R (w4 i lt ws wi)
        have wi' : wI (i + 1) = false := by
          cases z : wI (i + 1)
          · rfl
          · obtain ⟨s, q1, q2, q3⟩ := (w5 _).mp z
            have ne : s ≠ i := fun y => by rw [y, ws] at q2; cases q2
            rw [(w5 i).mpr ⟨s, by omega, q2, by omega⟩] at wi
            cases wi
        obtain ⟨m', c1, c2, c3⟩ := ih N (i + 1) _ (by omega) (by omega) (by omega) wi' (h.kl pt.2) (fun r hr => by rw [pt.2.1 108 (by decide) (by decide)]; exact hu r hr) (by rw [p1]; exact pt.1)
        refine ⟨m', ?_, c2, pt.2.trans c3⟩
        have b1' : l_X8_build_191 gSH F (l_X8_build_123 gSH F N) F 62 g (nI i) y5 0 m = _ := b1
        rw [st, a1', b1', c1]
      · have ws : wS i = true := (hS i).mpr b2
        clear b2
        have en := hend i ws
        have j := W.jump ws (la - 1) (by omega)
        rw [show la - 1 + 1 = la by omega] at j
        have pn2 : P (i + la) ≤ P n := W.mo en
        obtain ⟨m1, d1, d2, d3⟩ := s_bld282 (F := F) (k123 := l_X8_build_123 gSH F N) (g := g) (i := i) (la := la) (p := P i) (w3 i lt ws) (by omega) l F 0 m (by omega) (by have := h.2.2.2.1.1; omega) h R
        have wi' : wI (i + la) = false := by
          cases z : wI (i + la)
          · rfl
          · obtain ⟨s, q1, q2, q3⟩ := (w5 _).mp z
            have := w6 i s ws q2 (by omega)
            omega
        obtain ⟨m', c1, c2, c3⟩ := ih N (i + la) m1 (by omega) (by omega) en wi' (h.kl d3) (fun r hr => by rw [d3.1 108 (by decide) (by decide)]; exact hu r hr) (by rw [j]; exact d2)
        refine ⟨m', ?_, c2, d3.trans c3⟩
        have b1' : l_X8_build_191 gSH F (l_X8_build_123 gSH F N) F 62 g (nI i) y5 0 m = _ := b1
        have d1' : l_X8_build_282 gSH F (l_X8_build_123 gSH F N) F 62 g (nI i) (nI la) 0 m = _ := d1
        rw [st, a1', b1', d1', c1]
end BLD
