/-! COUNTING LOOPS of both sides -/
theorem cnt_loop {m : gM} {n : Nat} {p : Nat → Bool} {L : Nat → Int32 → Int32 → Option (Int32 × gM)} (h0 : ∀ N acc, L (N + 1) acc (nI n) = some (acc, m)) (h1 : ∀ N acc i, i < n → L (N + 1) acc (nI i) = L N (acc + (if p i = true then 1 else 0)) (nI (i + 1))) : ∀ (k N i : Nat), i + k = n → k < N → L N (nI (bc i p)) (nI i) = some (nI (bc n p), m) := by
  intro k
  induction k with
  | zero =>
    intro N i hi hN
    obtain ⟨N, rfl⟩ : ∃ N', N = N' + 1 := ⟨N - 1, by omega⟩
    rw [show i = n by omega]
    exact h0 N _
  | succ k ih =>
    intro N i hi hN
    obtain ⟨N, rfl⟩ : ∃ N', N = N' + 1 := ⟨N - 1, by omega⟩
    rw [h1 N _ i (by omega)]
    have e : nI (bc i p) + (if p i = true then 1 else 0) = nI (bc (i + 1) p) := by
      show _ = nI (bc i p + (if p i = true then 1 else 0))
      by_cases c : p i = true
      · rw [if_pos c, if_pos c, nI_1]
      · rw [if_neg c, if_neg c, Int32.add_zero]
        rfl
    rw [e]
    exact ih N (i + 1) (by omega) (by omega)
theorem cnt_run {m : gM} {n F : Nat} {p : Nat → Bool} {L : Nat → Int32 → Int32 → Option (Int32 × gM)} (hF : n < F) (h0 : ∀ N acc, L (N + 1) acc (nI n) = some (acc, m)) (h1 : ∀ N acc i, i < n → L (N + 1) acc (nI i) = L N (acc + (if p i = true then 1 else 0)) (nI (i + 1))) : L F 0 0 = some (nI (bc n p), m) := cnt_loop (p := p) h0 h1 n F 0 (by omega) hF
theorem bs_eta (x : Int64) {n : Nat} (hn : n ≤ 64) (h : ∀ d, bm x d = true → d < n) : bs n (bm x) = x := by
  apply bm_ext
  intro d _
  rw [bm_bs hn]
  cases e : bm x d
  · simp
  · simp [h d e]
theorem bc_top {p : Nat → Bool} {a : Nat} (h : ∀ d, p d = true → d < a) : ∀ k, bc (a + k) p = bc a p := by
  intro k
  induction k with
  | zero => rfl
  | succ k ih =>
    show bc (a + k) p + (if p (a + k) = true then 1 else 0) = _
    rw [ih, if_neg (fun c => by have := h _ c; omega)]
    rfl
/-- many -/
theorem s_many {F : Nat} {m : gM} (x : Int64) (hF : 5000 ≤ F) (hx : ∀ d, bm x d = true → d < 61) : f_X8_many gSH F x m = some (nI (bc 64 (bm x)), m) := by
  have e := bc_top hx 3
  rw [show 61 + 3 = 64 from rfl] at e
  rw [e]
  refine cnt_run (n := 61) (p := bm x) (L := fun N a i => l_X8_many_4 gSH F N x a i m) (by omega) (fun N acc => ?_) (fun N acc i hi => ?_)
  · show b_X8_many_4 gSH F (l_X8_many_4 gSH F N) x acc (nI 61) m = _
    unfold b_X8_many_4
    rw [if_pos (by decide)]
  · show b_X8_many_4 gSH F (l_X8_many_4 gSH F N) x acc (nI i) m = _
    unfold b_X8_many_4 b_X8_many_24
    rw [if_neg (show ¬ (61 : Int32) ≤ nI i from nI_ge (b := 61) hi (by decide)), s_has (by omega), g_bs, g_nmb, g_nmb]
    dsimp only
    by_cases c : bm x i = true
    · rw [if_pos c, if_neg one0, g_nmb, g_nmb, nI_a1]
    · rw [if_neg c, if_pos (rfl : (0 : Int32) = 0), g_nmb, g_nmb, nI_a1]
section CNT
variable {pg mn F : Nat} {m : gM} {q : Nat → Nat → Nat} {S : Nat → Nat} {H L : Nat → Int64}
theorem imp_m1 {a : Nat} (h : a < 2 ^ 31) : (nI a - 1 = -1) ↔ a = 0 := nI_m1' h
theorem s_importsInAll (hpg : pg = 5 ∨ pg = 25) (P : PR m.2.2 pg) (C : CPr pg m q S H L) (hS : aS q) (hF : 5000 ≤ F) : f_X2_importsInAll gSH F pg m = some (nI (bc (q 0 2) (fun r => decide (q 8 r ≠ 0))), m) := by
  obtain ⟨o1, o2, o3, b2, b3, b4, b5, b7, b8, b9, b10, b11, b12, b13, b14, b15, b16, b17, b18, b19, l3, l8⟩ := gP hpg
  have l2 := hS.1.2.2.2.1
  have l0 := hS.1.2.1
  refine cnt_run (p := fun r => decide (q 8 r ≠ 0)) (L := fun N a i => l_X2_importsInAll_4 gSH F N pg a i m) (by omega) (fun N acc => ?_) (fun N acc i hi => ?_)
  · show b_X2_importsInAll_4 gSH F (l_X2_importsInAll_4 gSH F N) pg acc (nI (q 0 2)) m = _
    unfold b_X2_importsInAll_4
    rw [o1, g_ift, P.2.1, g_bs, o3, g_ift, C.1.2.2.1, if_pos (nI_le (Nat.le_refl _) (by omega))]
  · have q8 := (hS.2.2.2.1 i hi).2.1
    show b_X2_importsInAll_4 gSH F (l_X2_importsInAll_4 gSH F N) pg acc (nI i) m = _
    unfold b_X2_importsInAll_4 b_X2_importsInAll_31
    rw [o1, g_ift, P.2.1, g_bs, o3, g_ift, C.1.2.2.1, if_neg (nI_ge hi (by omega)), P.2.2.2.2.2.2.2.1, g_bs, b16, g_inI (by omega) (by decide), g_ift, nI_clamp (by omega), (C.2.2.2.1 i hi).2.2.2.2.1]
    simp only [g_nmb, nI_a1]
    by_cases c : q 8 i = 0
    · rw [if_pos ((imp_m1 (by omega)).mpr c), if_neg (by simp [c])]
    · rw [if_neg (fun z => c ((imp_m1 (by omega)).mp z)), if_pos (by simp [c])]
theorem imp_s {a s : Nat} (ha : a ≤ 64) (hs : s < 64) : (nI a - 1 = nI s) ↔ a = s + 1 := by
  by_cases c : a = 0
  · rw [c]
    constructor
    · intro e
      exact absurd e.symm (nI_m1 (by omega))
    · intro e; omega
  · rw [nI_p1 (by omega), k_lit (by omega) (by omega)]
    omega
theorem s_importsOf (hpg : pg = 5 ∨ pg = 25) (P : PR m.2.2 pg) (C : CPr pg m q S H L) (hS : aS q) (hF : 5000 ≤ F) {s : Nat} (hs : s < 64) : f_X2_importsOf gSH F pg (nI s) m = some (nI (bc (q 0 2) (fun r => decide (q 8 r = s + 1))), m) := by
  obtain ⟨o1, o2, o3, b2, b3, b4, b5, b7, b8, b9, b10, b11, b12, b13, b14, b15, b16, b17, b18, b19, l3, l8⟩ := gP hpg
  have l2 := hS.1.2.2.2.1
  have l0 := hS.1.2.1
  refine cnt_run (p := fun r => decide (q 8 r = s + 1)) (L := fun N a i => l_X2_importsOf_4 gSH F N pg (nI s) a i m) (by omega) (fun N acc => ?_) (fun N acc i hi => ?_)
  · show b_X2_importsOf_4 gSH F (l_X2_importsOf_4 gSH F N) pg (nI s) acc (nI (q 0 2)) m = _
    unfold b_X2_importsOf_4
    rw [o1, g_ift, P.2.1, g_bs, o3, g_ift, C.1.2.2.1, if_pos (nI_le (Nat.le_refl _) (by omega))]
  · have q8 := (hS.2.2.2.1 i hi).2.1
    show b_X2_importsOf_4 gSH F (l_X2_importsOf_4 gSH F N) pg (nI s) acc (nI i) m = _
    unfold b_X2_importsOf_4 b_X2_importsOf_31
    rw [o1, g_ift, P.2.1, g_bs, o3, g_ift, C.1.2.2.1, if_neg (nI_ge hi (by omega)), P.2.2.2.2.2.2.2.1, g_bs, b16, g_inI (by omega) (by decide), g_ift, nI_clamp (by omega), (C.2.2.2.1 i hi).2.2.2.2.1]
    simp only [g_nmb, nI_a1]
    by_cases c : q 8 i = s + 1
    · rw [if_pos ((imp_s (by omega) hs).mpr c), if_pos (by simp [c])]
    · rw [if_neg (fun z => c ((imp_s (by omega) hs).mp z)), if_neg (by simp [c])]
theorem s_referencesIn (hpg : pg = 5 ∨ pg = 25) (P : PR m.2.2 pg) (C : CPr pg m q S H L) (hS : aS q) (hF : 5000 ≤ F) {s : Nat} (hs : s < 64) : f_X2_referencesIn gSH F pg (nI s) m = some (nI (bc (q 0 2) (fun r => decide (q 6 r = s))), m) := by
  obtain ⟨o1, o2, o3, b2, b3, b4, b5, b7, b8, b9, b10, b11, b12, b13, b14, b15, b16, b17, b18, b19, l3, l8⟩ := gP hpg
  obtain ⟨r0, r1, r2, r3, r4, r5, r6, r7, r8, r9, r10, d0, d1, d2, d3, e0, e1, e2, e3⟩ := id P
  have l2 := hS.1.2.2.2.1
  have l0 := hS.1.2.1
  refine cnt_run (p := fun r => decide (q 6 r = s)) (L := fun N a i => l_X2_referencesIn_4 gSH F N pg (nI s) a i m) (by omega) (fun N acc => ?_) (fun N acc i hi => ?_)
  · show b_X2_referencesIn_4 gSH F (l_X2_referencesIn_4 gSH F N) pg (nI s) acc (nI (q 0 2)) m = _
    unfold b_X2_referencesIn_4
    rw [o1, g_ift, r1, g_bs, o3, g_ift, C.1.2.2.1, if_pos (nI_le (Nat.le_refl _) (by omega))]
  · have q6 := (hS.2.2.2.1 i hi).1
    show b_X2_referencesIn_4 gSH F (l_X2_referencesIn_4 gSH F N) pg (nI s) acc (nI i) m = _
    unfold b_X2_referencesIn_4 b_X2_referencesIn_34
    rw [o1, g_ift, r1, g_bs, o3, g_ift, C.1.2.2.1, if_neg (nI_ge hi (by omega)), g_bs, o3, g_ift, e0, g_bs, b7, g_inI (by omega) (by decide), g_ift, nI_clamp (by omega), (C.2.2.2.1 i hi).1]
    simp only [g_nmb, nI_a1]
    by_cases c : q 6 i = s
    · rw [if_pos (by rw [c]), if_pos (by simp [c])]
    · rw [if_neg (fun z => c ((k_lit (by omega) (by omega)).mp z)), if_neg (by simp [c])]
/-- the class's loops over the meanings -/
theorem s_howMany (hmn : mn = 45 ∨ mn = 50) (m1 : m.2.2 mn 1 = some (mn + 2)) (hF : 5000 ≤ F) {nR : Nat} (hR : nR ≤ 100) (least most : Nat) (hl : least ≤ 64) (hm : most ≤ 64) : f_X1_howManyMean gSH F mn (nI least) (nI most) (nI nR) m = some (nI (bc nR (fun r => decide (least ≤ bc 64 (bm (m.2.1 (mn + 2) r)) ∧ bc 64 (bm (m.2.1 (mn + 2) r)) ≤ most))), m) := by
  obtain ⟨om, c1, c2, c3, c4⟩ := gMn hmn
  refine cnt_run (p := fun r => decide (least ≤ bc 64 (bm (m.2.1 (mn + 2) r)) ∧ bc 64 (bm (m.2.1 (mn + 2) r)) ≤ most)) (L := fun N a i => l_X1_howManyMean_6 gSH F N mn (nI least) (nI most) (nI nR) a i m) (by omega) (fun N acc => ?_) (fun N acc i hi => ?_)
  · show b_X1_howManyMean_6 gSH F (l_X1_howManyMean_6 gSH F N) mn (nI least) (nI most) (nI nR) acc (nI nR) m = _
    unfold b_X1_howManyMean_6
    rw [if_pos (nI_le (Nat.le_refl _) (by omega))]
  · have cc := bc_le (bm (m.2.1 (mn + 2) i)) 64
    show b_X1_howManyMean_6 gSH F (l_X1_howManyMean_6 gSH F N) mn (nI least) (nI most) (nI nR) acc (nI i) m = _
    unfold b_X1_howManyMean_6 b_X1_howManyMean_49 b_X1_howManyMean_50
    rw [if_neg (nI_ge hi (by omega)), if_neg (show ¬ (100 : Int32) ≤ nI i from nI_ge (b := 100) (by omega) (by decide)), om, g_ift, m1, g_bs, c2, g_inI (by omega) (by decide), g_ift, nI_clamp (by omega), s_bitCount, g_bs, g_nmb, g_nmb]
    simp only [g_nmb, nI_a1]
    by_cases x : least ≤ bc 64 (bm (m.2.1 (mn + 2) i))
    · rw [if_neg (nI_nlt x (by omega))]
      by_cases y : bc 64 (bm (m.2.1 (mn + 2) i)) ≤ most
      · rw [if_neg (nI_nlt y (by omega)), if_pos (by simp [x, y])]
      · rw [if_pos (nI_lt (by omega) (by omega)), if_neg (by simp [y])]
    · rw [if_pos (nI_lt (by omega) (by omega)), if_neg (by simp [x])]
theorem s_usersOf (hmn : mn = 45 ∨ mn = 50) (m1 : m.2.2 mn 1 = some (mn + 2)) (hF : 5000 ≤ F) {nR : Nat} (hR : nR ≤ 100) (g : Int64) : f_X1_usersOf gSH F mn g (nI nR) m = some (nI (bc nR (fun r => decide (m.2.1 (mn + 2) r &&& g ≠ 0))), m) := by
  obtain ⟨om, c1, c2, c3, c4⟩ := gMn hmn
  refine cnt_run (p := fun r => decide (m.2.1 (mn + 2) r &&& g ≠ 0)) (L := fun N a i => l_X1_usersOf_6 gSH F N mn g (nI nR) a i m) (by omega) (fun N acc => ?_) (fun N acc i hi => ?_)
  · show b_X1_usersOf_6 gSH F (l_X1_usersOf_6 gSH F N) mn g (nI nR) acc (nI nR) m = _
    unfold b_X1_usersOf_6
    rw [if_pos (nI_le (Nat.le_refl _) (by omega))]
  · show b_X1_usersOf_6 gSH F (l_X1_usersOf_6 gSH F N) mn g (nI nR) acc (nI i) m = _
    unfold b_X1_usersOf_6 b_X1_usersOf_40
    rw [if_neg (nI_ge hi (by omega)), if_neg (show ¬ (100 : Int32) ≤ nI i from nI_ge (b := 100) (by omega) (by decide)), om, g_ift, m1, g_bs, c2, g_inI (by omega) (by decide), g_ift, nI_clamp (by omega)]
    simp only [g_nmb, nI_a1]
    by_cases x : m.2.1 (mn + 2) i &&& g = 0
    · rw [if_pos x, if_neg (by simp [x])]
    · rw [if_neg x, if_pos (by simp [x])]
end CNT
