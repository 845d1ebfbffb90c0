/-! THE CALLS THAT ONLY LOOK: scope, declaration, reference, friends -/
section JNT
variable {F tp tx pg df mn tr : Nat} {m m' : gM} {bt bx : Nat → Nat} {nt nx f : Nat}
theorem r_scope107 (hp : PTR m) {q : Nat → Nat → Nat} {S Ln : Nat → Nat} (R : RPr S Ln m q) (hS : aS q) (hF : 5000 ≤ F) {s w : Nat} (hs : s < 64) (hw : w = 3 ∨ w = 4) : l_X8_scope_107 gSH F F 62 (nI s) (nI w) 0 0 m = some (nI (bc (q 0 2) (fun r => if w = 3 then decide (q 6 r = s) else decide (q 8 r = s + 1))), m) := by
  have l2 := hS.1.2.2.2.1
  have l0 := hS.1.2.1
  refine cnt_run (p := fun r => if w = 3 then decide (q 6 r = s) else decide (q 8 r = s + 1)) (L := fun N a i => l_X8_scope_107 gSH F N 62 (nI s) (nI w) a i m) (by omega) (fun N acc => ?_) (fun N acc i hi => ?_)
  · show b_X8_scope_107 gSH F (l_X8_scope_107 gSH F N) 62 (nI s) (nI w) acc (nI (q 0 2)) m = _
    unfold b_X8_scope_107
    rw [ob_62, g_ift, R.1.2.2, if_pos (nI_le (Nat.le_refl _) (by omega))]
  · have q8 := (hS.2.2.2.1 i hi).2.1
    have q6 := (hS.2.2.2.1 i hi).1
    show b_X8_scope_107 gSH F (l_X8_scope_107 gSH F N) 62 (nI s) (nI w) acc (nI i) m = _
    unfold b_X8_scope_107 b_X8_scope_144 b_X8_scope_153
    rw [ob_62, g_ift, R.1.2.2, if_neg (nI_ge hi (by omega)), if_neg (show ¬ nI w ≤ 2 from nI_ge (a := 2) (by omega) (by omega)), hp.1.1.2.2.2.2.2.2.1, g_bs, show aB gSH 72 .int (nI i) = true from g_inI (N := 101) (by omega) (by decide), g_ift, nI_clamp (by omega), (R.2.2.2 i hi).1, hp.1.1.2.2.2.2.2.2.2.2.2, g_bs, show aB gSH 75 .int (nI i) = true from g_inI (N := 101) (by omega) (by decide), g_ift, (R.2.2.2 i hi).2.2.2]
    simp only [g_nmb, nI_a1]
    rcases hw with rfl | rfl
    · rw [if_pos (show nI 3 = 3 from rfl)]
      by_cases c : q 6 i = s
      · rw [if_pos (by rw [c]), if_pos (by simp [c])]
      · rw [if_neg (fun z => c ((k_lit (by omega) (by omega)).mp z)), if_neg (by simp [c])]
    · rw [if_neg (show ¬ nI 4 = 3 by decide)]
      by_cases c : q 8 i = s + 1
      · rw [if_pos ((imp_s (by omega) hs).mpr c), if_pos (by simp [c])]
      · rw [if_neg (fun z => c ((imp_s (by omega) hs).mp z)), if_neg (by simp [c])]
theorem r_scope65 (hp : PTR m) {q : Nat → Nat → Nat} {S Ln : Nat → Nat} (R : RPr S Ln m q) (hS : aS q) (hF : 5000 ≤ F) {s w : Nat} (hs : s < 64) (hw : w = 2 ∨ w = 3 ∨ w = 4) : l_X8_scope_65 gSH F F 62 (nI s) (nI w) 0 0 m = some (nI (if w = 2 then bc (q 0 1) (fun d => decide (q 3 d = s)) else bc (q 0 2) (fun r => if w = 3 then decide (q 6 r = s) else decide (q 8 r = s + 1))), m) := by
  have l1 := hS.1.2.2.1
  have l0 := hS.1.2.1
  by_cases w2 : w = 2
  · subst w2
    rw [if_pos rfl]
    have go : ∀ (k N i : Nat), i + k = q 0 1 → k < N → l_X8_scope_65 gSH F N 62 (nI s) (nI 2) (nI (bc i (fun d => decide (q 3 d = s)))) (nI i) m = some (nI (bc (q 0 1) (fun d => decide (q 3 d = s))), m) := by
      refine cnt_loop (p := fun d => decide (q 3 d = s)) (L := fun N a i => l_X8_scope_65 gSH F N 62 (nI s) (nI 2) a i m) (fun N acc => ?_) (fun N acc i hi => ?_)
      · show b_X8_scope_65 gSH F (l_X8_scope_65 gSH F N) 62 (nI s) (nI 2) acc (nI (q 0 1)) m = _
        unfold b_X8_scope_65 b_X8_scope_104
        rw [ob_62, g_ift, R.1.2.1, if_pos (nI_le (Nat.le_refl _) (by omega))]
        obtain ⟨N, hN⟩ : ∃ N', F = N' + 1 := ⟨F - 1, by omega⟩
        have e : l_X8_scope_107 gSH F F = l_X8_scope_107 gSH F (N + 1) := by rw [← hN]
        rw [e]
        show b_X8_scope_107 gSH F (l_X8_scope_107 gSH F N) 62 (nI s) (nI 2) acc 0 m = _
        unfold b_X8_scope_107
        rw [ob_62, g_ift, if_pos (show nI 2 ≤ 2 by decide), ite_self]
      · have q3 := (hS.2.2.1 i hi).1
        show b_X8_scope_65 gSH F (l_X8_scope_65 gSH F N) 62 (nI s) (nI 2) acc (nI i) m = _
        unfold b_X8_scope_65 b_X8_scope_96
        rw [ob_62, g_ift, R.1.2.1, if_neg (nI_ge hi (by omega)), if_pos (show nI 2 = 2 from rfl), hp.1.1.2.2.1, g_bs, show aB gSH 68 .int (nI i) = true from g_inI (N := 61) (by omega) (by decide), g_ift, nI_clamp (by omega), (R.2.2.1 i hi).1]
        simp only [g_nmb, nI_a1]
        by_cases c : q 3 i = s
        · rw [if_pos (by rw [c]), if_pos (by simp [c])]
        · rw [if_neg (fun z => c ((k_lit (by omega) (by omega)).mp z)), if_neg (by simp [c])]
    exact go (q 0 1) F 0 (by omega) (by omega)
  · rw [if_neg w2]
    have t := r_scope107 (F := F) hp R hS hF hs (w := w) (by omega)
    obtain ⟨N, hN⟩ : ∃ N', F = N' + 1 := ⟨F - 1, by omega⟩
    have e : l_X8_scope_65 gSH F F = l_X8_scope_65 gSH F (N + 1) := by rw [← hN]
    rw [e]
    show b_X8_scope_65 gSH F (l_X8_scope_65 gSH F N) 62 (nI s) (nI w) 0 0 m = _
    unfold b_X8_scope_65 b_X8_scope_104
    rw [ob_62, g_ift, t, if_neg (show ¬ nI w = 2 from fun z => w2 ((k_lit (v := 2) (by omega) (by decide)).mp z)), ite_self]
/-- scope -/
theorem j_scope (hF : 5000 ≤ F) (h : JP m tp tx pg df mn tr bt nt bx nx f) (x y : Int32) : RO m (f_X7_scope gSH F 0 x y m) (f_X8_scope gSH F 62 x y) := by
  obtain ⟨h1, ⟨z, o1, o2, o3⟩, h3, h4, ⟨k1, C, k3, k4⟩, h6, h7, h8, h9, ⟨x1, x2, R, x4, x5⟩, h11⟩ := id h
  have hpg : pg = 5 ∨ pg = 25 := by omega
  obtain ⟨g1, g2, g3, -, -, -, -, -, -, -, -, b11, b12, b13, -⟩ := gP hpg
  have hS := (pQ_ok x1).1.1
  have l0 := hS.1.2.1
  have l1 := hS.1.2.2.1
  have P : PR m.2.2 pg := h1.pr hpg
  obtain ⟨r0, r1, r2, r3, r4, -⟩ := id P
  have thr : (∀ m' : gM, SB m m' → f_X8_scope gSH F 62 x y m' = b_X8_scope_26 gSH F 62 x y 62 m') → f_X7_scope gSH F 0 x y m = some (none, m) → RO m (f_X7_scope gSH F 0 x y m) (f_X8_scope gSH F 62 x y) := fun hr hc => by
    refine ⟨none, hc, fun m' s => ⟨0, 1, ?_, Or.inl ⟨rfl, rfl⟩⟩⟩
    rw [hr m' s]
    unfold b_X8_scope_26 b_X8_scope_27
    rw [ob_62, g_ift, s_fails0, g_bs, g_nmb, g_nmb, if_neg one0]
  by_cases c0 : x < 0
  · refine thr (fun m' s => ?_) ?_
    · unfold f_X8_scope
      rw [if_pos c0]
    · unfold f_X7_scope
      rw [if_pos c0]
  by_cases c1 : nI (pQ bx nx 0 0) ≤ x
  · refine thr (fun m' s => ?_) ?_
    · unfold f_X8_scope
      rw [if_neg c0, ob_62, g_ift, s.1, R.1.1, if_pos c1]
    · unfold f_X7_scope
      rw [if_neg c0, ob_0, g_ift, z.2.2.1, g_bs, g1, g_ift, C.1.1, if_neg (fun e => by
        rw [Int32.lt_iff_toInt_lt] at e
        rw [Int32.le_iff_toInt_le] at c1
        omega)]
  obtain ⟨i, hi, rfl⟩ := i32_in (by omega) c0 c1
  have lt : nI i < nI (pQ bx nx 0 0) := nI_lt hi (by omega)
  by_cases out : y < 0 ∨ (5 : Int32) ≤ y
  · have ne : ∀ k, k < 5 → ¬ y = nI k := fun k hk e => by
      rw [e] at out
      rcases out with c | c
      · exact absurd c (nI_pos (by omega))
      · exact absurd c (nI_ge (b := 5) hk (by decide))
    refine thr (fun m' s => ?_) ?_
    · unfold f_X8_scope
      rw [if_neg c0, ob_62, g_ift, s.1, R.1.1, if_neg c1]
      rcases out with c | c
      · rw [if_pos c]
      · by_cases cy : y < 0
        · rw [if_pos cy]
        · rw [if_neg cy, if_pos c]
    · unfold f_X7_scope
      rw [if_neg c0, ob_0, g_ift, z.2.2.1, g_bs, g1, g_ift, C.1.1, if_pos lt, if_neg (show ¬ y = 0 from ne 0 (by decide)), if_neg (show ¬ y = 1 from ne 1 (by decide)), if_neg (show ¬ y = 2 from ne 2 (by decide)), if_neg (show ¬ y = 3 from ne 3 (by decide)), if_neg (show ¬ y = 4 from ne 4 (by decide))]
  obtain ⟨w, hw, rfl⟩ := i32_in (k := 5) (by decide) (fun c => out (Or.inl c)) (fun c => out (Or.inr c))
  have rd : ∀ m' : gM, SB m m' → ∀ j, j ≠ 0 → (gsI m' 62 0 0).1 62 j = m.1 62 j := fun m' s j hj => by rw [gI_1, if_neg (by omega), s.1]
  have hp' : ∀ m' : gM, SB m m' → PTR (gsI m' 62 0 0) := fun m' s => h7.eq (by rw [gI_2]; exact s.2.2)
  have R' : ∀ m' : gM, SB m m' → RPr (kS bx nx) (kL bx nx) (gsI m' 62 0 0) (pQ bx nx) := fun m' s => R.k (fun c a b => by rw [gsI_ne (by omega), s.1]) ⟨rd m' s 10 (by decide), rd m' s 15 (by decide), rd m' s 20 (by decide)⟩
  have un : ∀ (m' : gM), SB m m' → f_X8_scope gSH F 62 (nI i) (nI w) m' = (if (2 : Int32) ≤ nI w then (l_X8_scope_65 gSH F F 62 (nI i) (nI w) 0 0 (gsI m' 62 0 0)) else (if nI w = 0 then some (m.1 66 i, gsI m' 62 0 0) else some (m.1 67 i, gsI m' 62 0 0))) := by
    intro m' s
    unfold f_X8_scope b_X8_scope_27
    rw [if_neg c0, ob_62, g_ift, s.1, R.1.1, if_neg c1, if_neg (nI_pos (by omega)), if_neg (show ¬ (5 : Int32) ≤ nI w from nI_ge (b := 5) hw (by decide)), g_ift, s_fails1, g_bs, g_nmb, g_nmb, if_pos (rfl : (0 : Int32) = 0), g_ift, g_ift, (hp' m' s).1.1.1, g_bs, show aB gSH 66 .int (nI i) = true from g_inI (N := 65) (by omega) (by decide), g_ift, (hp' m' s).1.1.2.1, g_bs, show aB gSH 67 .int (nI i) = true from g_inI (N := 65) (by omega) (by decide), g_ift, nI_clamp (by omega)]
    dsimp only
    rw [gsI_ne (show (66 : Nat) ≠ 62 by decide), gsI_ne (show (67 : Nat) ≠ 62 by decide), s.1]
  have cases5 : w = 0 ∨ w = 1 ∨ w = 2 ∨ w = 3 ∨ w = 4 := by omega
  rcases cases5 with rfl | rfl | rfl | rfl | rfl
  · refine ⟨some (nI (pQ bx nx 1 i) - 1), ?_, fun m' s => ⟨nI (pQ bx nx 1 i) - 1, 0, ?_, Or.inr ⟨rfl, rfl⟩⟩⟩
    · unfold f_X7_scope
      rw [if_neg c0, ob_0, g_ift, z.2.2.1, g_bs, g1, g_ift, C.1.1, if_pos lt, if_pos (show nI 0 = 0 from rfl), g_bs, g1, g_ift, r2, g_bs, b11, g_inI (by omega) (by decide), g_ift, nI_clamp (by omega), (C.2.1 i hi).1]
    · rw [un m' s, if_neg (by decide), if_pos (show nI 0 = 0 from rfl), (R.2.1 i hi).1]
  · refine ⟨some (nI (pQ bx nx 2 i)), ?_, fun m' s => ⟨nI (pQ bx nx 2 i), 0, ?_, Or.inr ⟨rfl, rfl⟩⟩⟩
    · unfold f_X7_scope
      rw [if_neg c0, ob_0, g_ift, z.2.2.1, g_bs, g1, g_ift, C.1.1, if_pos lt, if_neg (by decide), if_pos (show nI 1 = 1 from rfl), g_bs, g1, g_ift, r3, g_bs, b12, g_inI (by omega) (by decide), g_ift, nI_clamp (by omega), (C.2.1 i hi).2.1]
    · rw [un m' s, if_neg (by decide), if_neg (by decide), (R.2.1 i hi).2]
  · refine ⟨some (nI (bc (pQ bx nx 0 1) (fun d => decide (pQ bx nx 3 d = i)))), ?_, fun m' s => ⟨nI (bc (pQ bx nx 0 1) (fun d => decide (pQ bx nx 3 d = i))), 0, ?_, Or.inr ⟨rfl, rfl⟩⟩⟩
    · unfold f_X7_scope
      rw [if_neg c0, ob_0, g_ift, z.2.2.1, g_bs, g1, g_ift, C.1.1, if_pos lt, if_neg (by decide), if_neg (by decide), if_pos (show nI 2 = 2 from rfl), g_bs, g1, g_ift, r4, g_bs, b13, g_inI (by omega) (by decide), g_ift, nI_clamp (by omega), (C.2.1 i hi).2.2.1, s_bitCount, g_bs, g_nmb, g_nmb]
      have e := bc_top (p := bm (bs (pQ bx nx 0 1) (fun d => decide (pQ bx nx 3 d = i)))) (a := pQ bx nx 0 1) (fun d hd => by
        rw [bm_bs (by omega)] at hd
        simp at hd
        exact hd.1) (64 - pQ bx nx 0 1)
      rw [show pQ bx nx 0 1 + (64 - pQ bx nx 0 1) = 64 by omega] at e
      rw [e, bc_cong _ (fun d hd => by rw [bm_bs (by omega), decide_eq_true hd, Bool.true_and])]
    · rw [un m' s, if_pos (by decide), r_scope65 (hp' m' s) (R' m' s) hS hF (by omega) (Or.inl rfl), if_pos rfl]
  · refine ⟨some (nI (bc (pQ bx nx 0 2) (fun r => decide (pQ bx nx 6 r = i)))), ?_, fun m' s => ⟨nI (bc (pQ bx nx 0 2) (fun r => decide (pQ bx nx 6 r = i))), 0, ?_, Or.inr ⟨rfl, rfl⟩⟩⟩
    · unfold f_X7_scope
      rw [if_neg c0, ob_0, g_ift, z.2.2.1, g_bs, g1, g_ift, C.1.1, if_pos lt, if_neg (by decide), if_neg (by decide), if_neg (by decide), if_pos (show nI 3 = 3 from rfl), g_bs, g1, g_ift, s_referencesIn hpg P C hS hF (by omega), g_bs, g_nmb, g_nmb]
    · rw [un m' s, if_pos (by decide), r_scope65 (hp' m' s) (R' m' s) hS hF (by omega) (Or.inr (Or.inl rfl))]
      simp
  · refine ⟨some (nI (bc (pQ bx nx 0 2) (fun r => decide (pQ bx nx 8 r = i + 1)))), ?_, fun m' s => ⟨nI (bc (pQ bx nx 0 2) (fun r => decide (pQ bx nx 8 r = i + 1))), 0, ?_, Or.inr ⟨rfl, rfl⟩⟩⟩
    · unfold f_X7_scope
      rw [if_neg c0, ob_0, g_ift, z.2.2.1, g_bs, g1, g_ift, C.1.1, if_pos lt, if_neg (by decide), if_neg (by decide), if_neg (by decide), if_neg (by decide), if_pos (show nI 4 = 4 from rfl), g_bs, g1, g_ift, s_importsOf hpg P C hS hF (by omega), g_bs, g_nmb, g_nmb]
    · rw [un m' s, if_pos (by decide), r_scope65 (hp' m' s) (R' m' s) hS hF (by omega) (Or.inr (Or.inr rfl))]
      simp
/-- has, of the object's marks -/
theorem s_hasM {c : Nat} (oc : oB gSH c 0 = true) {N : Nat} (hN : N < 2 ^ 31) (h4 : m.1 c 4 = nI N) (x : Int32) : f_X0_has gSH F c x m = some (if x < 0 ∨ nI N ≤ x then 0 else 1, m) := by
  unfold f_X0_has
  by_cases c0 : x < 0
  · rw [if_pos c0, if_pos (Or.inl c0)]
  · rw [if_neg c0, oc, g_ift, h4]
    by_cases c1 : nI N ≤ x
    · rw [if_pos c1, if_pos (Or.inr c1)]
    · rw [if_neg c1, if_neg (fun z => z.elim c0 c1)]
/-- reference -/
theorem j_reference (hF : 5000 ≤ F) (h : JP m tp tx pg df mn tr bt nt bx nx f) (x y : Int32) : RO m (f_X7_reference gSH F 0 x y m) (f_X8_reference gSH F 62 x y) := by
  obtain ⟨h1, ⟨z, o1, o2, o3⟩, h3, h4, ⟨k1, C, k3, k4⟩, h6, h7, h8, h9, ⟨x1, x2, R, x4, x5⟩, h11⟩ := id h
  have hpg : pg = 5 ∨ pg = 25 := by omega
  have hmn : mn = 45 ∨ mn = 50 := by omega
  obtain ⟨g1, g2, g3, -, -, -, -, b7, b8, -, -, -, -, -, -, -, b16, -⟩ := gP hpg
  obtain ⟨om, c1', c2', c3', c4'⟩ := gMn hmn
  have hS := (pQ_ok x1).1.1
  have l0 := hS.1.2.1
  have l1 := hS.1.2.2.1
  have l2 := hS.1.2.2.2.1
  have P : PR m.2.2 pg := h1.pr hpg
  obtain ⟨r0, r1, r2, r3, r4, r5, r6, r7, r8, r9, r10, d0, d1, d2, d3, e0, e1, e2, e3⟩ := id P
  have M := h1.mr hmn
  have hs := s_hasM (F := F) g3 (show pQ bx nx 0 2 < 2 ^ 31 by omega) C.1.2.2.1
  have thr : (∀ m' : gM, SB m m' → f_X8_reference gSH F 62 x y m' = b_X8_reference_27 gSH F 62 x y 62 m') → f_X7_reference gSH F 0 x y m = some (none, m) → RO m (f_X7_reference gSH F 0 x y m) (f_X8_reference gSH F 62 x y) := fun hr hc => by
    refine ⟨none, hc, fun m' s => ⟨0, 1, ?_, Or.inl ⟨rfl, rfl⟩⟩⟩
    rw [hr m' s]
    unfold b_X8_reference_27 b_X8_reference_28
    rw [ob_62, g_ift, s_fails0, g_bs, g_nmb, g_nmb, if_neg one0]
  by_cases bad : x < 0 ∨ nI (pQ bx nx 0 2) ≤ x
  · refine thr (fun m' s => ?_) ?_
    · unfold f_X8_reference
      by_cases c0 : x < 0
      · rw [if_pos c0]
      · have c1 : nI (pQ bx nx 0 2) ≤ x := bad.elim (fun z => absurd z c0) id
        rw [if_neg c0, ob_62, g_ift, s.1, R.1.2.2, if_pos c1]
    · unfold f_X7_reference
      rw [ob_0, g_ift, z.2.2.1, g_bs, g1, g_ift, r1, g_bs, g3, g_ift, hs, g_bs, g_nmb, g_nmb, if_pos bad, if_pos (rfl : (0 : Int32) = 0)]
  have c0 : ¬ x < 0 := fun c => bad (Or.inl c)
  have c1 : ¬ nI (pQ bx nx 0 2) ≤ x := fun c => bad (Or.inr c)
  obtain ⟨i, hi, rfl⟩ := i32_in (by omega) c0 c1
  have hs1 : f_X0_has gSH F (pg + 6) (nI i) m = some (1, m) := by rw [hs, if_neg bad]
  by_cases out : y < 0 ∨ (6 : Int32) ≤ y
  · have ne : ∀ k, k < 6 → ¬ y = nI k := fun k hk e => by
      rw [e] at out
      rcases out with c | c
      · exact absurd c (nI_pos (by omega))
      · exact absurd c (nI_ge (b := 6) hk (by decide))
    refine thr (fun m' s => ?_) ?_
    · unfold f_X8_reference
      rw [if_neg c0, ob_62, g_ift, s.1, R.1.2.2, if_neg c1]
      rcases out with c | c
      · rw [if_pos c]
      · by_cases cy : y < 0
        · rw [if_pos cy]
        · rw [if_neg cy, if_pos c]
    · unfold f_X7_reference
      rw [ob_0, g_ift, z.2.2.1, g_bs, g1, g_ift, r1, g_bs, g3, g_ift, hs1, g_bs, g_nmb, g_nmb, if_neg one0, if_neg (show ¬ y = 0 from ne 0 (by decide)), if_neg (show ¬ y = 1 from ne 1 (by decide)), if_neg (show ¬ y = 2 from ne 2 (by decide)), if_neg (show ¬ y = 3 from ne 3 (by decide)), if_neg (show ¬ y = 4 from ne 4 (by decide)), if_neg (show ¬ y = 5 from ne 5 (by decide))]
  obtain ⟨w, hw, rfl⟩ := i32_in (k := 6) (by decide) (fun c => out (Or.inl c)) (fun c => out (Or.inr c))
  have hp' : ∀ m' : gM, SB m m' → PTR (gsI m' 62 0 0) := fun m' s => h7.eq (by rw [gI_2]; exact s.2.2)
  have mean := h.mean hi
  have up := h.up hi
  have hX : ∀ d, bm (m.2.1 104 i) d = true → d < 61 := fun d hd => by have := mean.2 d hd; omega
  have ra : ∀ c, c = 72 ∨ c = 73 ∨ c = 75 ∨ c = 105 → aB gSH c .int (nI i) = true := fun c hc => by
    rcases hc with rfl | rfl | rfl | rfl <;> exact g_inI (N := 101) (by omega) (by decide)
  have un : ∀ (m' : gM), SB m m' → f_X8_reference gSH F 62 (nI i) (nI w) m' = (if nI w = 0 then some (m.1 72 i, gsI m' 62 0 0) else (if nI w = 1 then some (m.1 73 i, gsI m' 62 0 0) else (if nI w = 2 then some (m.1 75 i, gsI m' 62 0 0) else (if nI w = 3 then some (nI (bc 64 (bm (m.2.1 104 i))), gsI m' 62 0 0) else (if nI w = 4 then (if m.2.1 104 i = 0 then some (-1, gsI m' 62 0 0) else some (m.1 105 i, gsI m' 62 0 0)) else (if m.2.1 104 i = 0 then some (-1, gsI m' 62 0 0) else (if m.1 106 i = 0 then some (0, gsI m' 62 0 0) else some (1, gsI m' 62 0 0)))))))) := by
    intro m' s
    unfold f_X8_reference b_X8_reference_28
    rw [if_neg c0, ob_62, g_ift, s.1, R.1.2.2, if_neg c1, if_neg (nI_pos (by omega)), if_neg (show ¬ (6 : Int32) ≤ nI w from nI_ge (b := 6) hw (by decide)), g_ift, s_fails1, g_bs, g_nmb, g_nmb, if_pos (rfl : (0 : Int32) = 0)]
    have pp := hp' m' s
    have e72 : (gsI m' 62 0 0).1 72 i = m.1 72 i := by rw [gsI_ne (by decide), s.1]
    have e73 : (gsI m' 62 0 0).1 73 i = m.1 73 i := by rw [gsI_ne (by decide), s.1]
    have e75 : (gsI m' 62 0 0).1 75 i = m.1 75 i := by rw [gsI_ne (by decide), s.1]
    have e105 : (gsI m' 62 0 0).1 105 i = m.1 105 i := by rw [gsI_ne (by decide), s.1]
    have e106 : (gsI m' 62 0 0).1 106 i = m.1 106 i := by rw [gsI_ne (by decide), s.1]
    have e104 : (gsI m' 62 0 0).2.1 104 i = m.2.1 104 i := by rw [gI_2, s.2.1 104 (by decide)]
    have cl : (nI i).toNatClampNeg = i := nI_clamp (by omega)
    have b104 : aB gSH 104 .long (nI i) = true := g_inI (N := 101) (by omega) (by decide)
    have b106 : aB gSH 106 .boolean (nI i) = true := g_inI (N := 101) (by omega) (by decide)
    have mm : f_X8_many gSH F (m.2.1 104 i) (gsI m' 62 0 0) = some (nI (bc 64 (bm (m.2.1 104 i))), gsI m' 62 0 0) := s_many _ hF hX
    simp only [g_ift, g_bs, g_nmb, pp.1.1.2.2.2.2.2.2.1, pp.1.1.2.2.2.2.2.2.2.1, pp.1.1.2.2.2.2.2.2.2.2.2, pp.2.2.2.2.2.1.1, pp.2.2.2.2.2.1.2.1, pp.2.2.2.2.2.1.2.2, ra 72 (by omega), ra 73 (by omega), ra 75 (by omega), ra 105 (by omega), b104, b106, cl, e72, e73, e75, e105, e106, e104, mm]
  have cases6 : w = 0 ∨ w = 1 ∨ w = 2 ∨ w = 3 ∨ w = 4 ∨ w = 5 := by omega
  have ir : inB (nI i) 100 = true := g_inI (by omega) (by decide)
  have cl : (nI i).toNatClampNeg = i := nI_clamp (by omega)
  have cm := C.2.2.2.1 i hi
  have rm := R.2.2.2 i hi
  have st : f_X7_reference gSH F 0 (nI i) (nI w) m = (if nI w = 0 then some (some (m.1 (pg + 7) i), m) else (if nI w = 1 then some (some (m.1 (pg + 8) i), m) else (if nI w = 2 then some (some (m.1 (pg + 16) i), m) else (if nI w = 3 then some (some (nI (bc 64 (bm (m.2.1 (mn + 2) i)))), m) else (if nI w = 4 then some (some (m.1 (mn + 3) i), m) else (if nI w = 5 then some (some (m.1 (mn + 4) i), m) else some (none, m))))))) := by
    unfold f_X7_reference
    rw [ob_0, g_ift, z.2.2.1, g_bs, g1, g_ift, r1, g_bs, g3, g_ift, hs1, g_bs, g_nmb, g_nmb, if_neg one0]
    dsimp only
    simp only [z.2.2.1, z.2.2.2.2.1, g_bs, g1, g_ift, r1, g3, e0, e1, r7, b7, b8, b16, ir, om, M.2.1, M.2.2.1, M.2.2.2, c2', c3', c4', cl, s_bitCount, g_nmb]
  rcases cases6 with rfl | rfl | rfl | rfl | rfl | rfl
  · refine ⟨some (nI (pQ bx nx 6 i)), ?_, fun m' s => ⟨nI (pQ bx nx 6 i), 0, ?_, Or.inr ⟨rfl, rfl⟩⟩⟩
    · rw [st, if_pos (show nI 0 = 0 from rfl), cm.1]
    · rw [un m' s, if_pos (show nI 0 = 0 from rfl), rm.1]
  · refine ⟨some (nI (kS bx nx (pQ bx nx 7 i))), ?_, fun m' s => ⟨nI (kS bx nx (pQ bx nx 7 i)), 0, ?_, Or.inr ⟨rfl, rfl⟩⟩⟩
    · rw [st, if_neg (by decide), if_pos (show nI 1 = 1 from rfl), cm.2.1]
    · rw [un m' s, if_neg (by decide), if_pos (show nI 1 = 1 from rfl), rm.2.1]
  · refine ⟨some (nI (pQ bx nx 8 i) - 1), ?_, fun m' s => ⟨nI (pQ bx nx 8 i) - 1, 0, ?_, Or.inr ⟨rfl, rfl⟩⟩⟩
    · rw [st, if_neg (by decide), if_neg (by decide), if_pos (show nI 2 = 2 from rfl), cm.2.2.2.2.1]
    · rw [un m' s, if_neg (by decide), if_neg (by decide), if_pos (show nI 2 = 2 from rfl), rm.2.2.2]
  · refine ⟨some (nI (bc 64 (bm (m.2.1 104 i)))), ?_, fun m' s => ⟨nI (bc 64 (bm (m.2.1 104 i))), 0, ?_, Or.inr ⟨rfl, rfl⟩⟩⟩
    · rw [st, if_neg (by decide), if_neg (by decide), if_neg (by decide), if_pos (show nI 3 = 3 from rfl), mean.1]
    · rw [un m' s, if_neg (by decide), if_neg (by decide), if_neg (by decide), if_pos (show nI 3 = 3 from rfl)]
  · refine ⟨some (m.1 (mn + 3) i), ?_, fun m' s => ⟨m.1 (mn + 3) i, 0, ?_, Or.inr ⟨rfl, rfl⟩⟩⟩
    · rw [st, if_neg (by decide), if_neg (by decide), if_neg (by decide), if_neg (by decide), if_pos (show nI 4 = 4 from rfl)]
    · rw [un m' s, if_neg (by decide), if_neg (by decide), if_neg (by decide), if_neg (by decide), if_pos (show nI 4 = 4 from rfl)]
      by_cases c : m.2.1 104 i = 0
      · rw [if_pos c, (up.1 c).1]
      · rw [if_neg c, (up.2 c).1]
  · refine ⟨some (m.1 (mn + 4) i), ?_, fun m' s => ⟨m.1 (mn + 4) i, 0, ?_, Or.inr ⟨rfl, rfl⟩⟩⟩
    · rw [st, if_neg (by decide), if_neg (by decide), if_neg (by decide), if_neg (by decide), if_neg (by decide), if_pos (show nI 5 = 5 from rfl)]
    · rw [un m' s, if_neg (by decide), if_neg (by decide), if_neg (by decide), if_neg (by decide), if_neg (by decide)]
      by_cases c : m.2.1 104 i = 0
      · rw [if_pos c, (up.1 c).2]
      · rw [if_neg c, (up.2 c).2.1]
        rcases (up.2 c).2.2 with z | z
        · rw [z, if_pos rfl]
        · rw [z, if_neg one0]
end JNT
