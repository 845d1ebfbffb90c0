/-! THE CLASS'S RESOLVER: resolve -/
theorem nI_dec (b : Nat) : nI b + Int32.ofInt (-1) = nI b - 1 := by
  rw [Int32.sub_eq_add_neg]
  rfl
theorem sh_m1 : ∀ k, k < 7 → ((1 : Int32) <<< (nI k &&& 31)) - 1 = nI (2 ^ k) - 1 := by decide
theorem sh_2k : ∀ k, k < 6 → (1 : Int32) <<< (nI k &&& 31) = nI (2 ^ k) := by decide
/-- what is kept of reference r -/
def MNr (q : Nat → Nat → Nat) (nk : Nat → Nat → Bool) (mn : Nat) (m : gM) (r : Nat) : Prop := (∀ d, bm (m.2.1 (mn + 2) r) d = true ↔ mB q nk (fun i => decide (q 15 r = i + 1)) r d) ∧ (m.2.1 (mn + 2) r = 0 → m.1 (mn + 3) r = -1 ∧ m.1 (mn + 4) r = -1) ∧
  (m.2.1 (mn + 2) r ≠ 0 → ∃ j, j < 64 ∧ m.1 (mn + 3) r = nI j ∧ ((m.1 (mn + 4) r = 1 ∧ ∃ d, mH q nk r (anc q j (q 6 r)) d) ∨ (m.1 (mn + 4) r = 0 ∧ ¬ ∃ d, mH q nk r (anc q j (q 6 r)) d)) ∧ (q 2 (q 6 r) = 6 → j = 0) ∧ (q 2 (q 6 r) ≠ 6 → ∃ d, mCn q nk (mEc q nk (fun i => decide (q 15 r = i + 1))) r j (q 6 r) d))
section RES
variable {pg mn F r : Nat} {m m' : gM} {q : Nat → Nat → Nat} {S : Nat → Nat} {H L : Nat → Int64} {nk : Nat → Nat → Bool}
theorem gMn (h : mn = 45 ∨ mn = 50) : oB gSH mn 1 = true ∧ (∀ x, aB gSH (mn + 1) .long x = inB x 100) ∧ (∀ x, aB gSH (mn + 2) .long x = inB x 100) ∧ (∀ x, aB gSH (mn + 3) .int x = inB x 100) ∧ (∀ x, aB gSH (mn + 4) .int x = inB x 100) := by
  rcases h with rfl | rfl
  · exact ⟨by decide +kernel, fun x => rfl, fun x => rfl, fun x => rfl, fun x => rfl⟩
  · exact ⟨by decide +kernel, fun x => rfl, fun x => rfl, fun x => rfl, fun x => rfl⟩
theorem s_sets (hpg : pg = 5 ∨ pg = 25) (hmn : mn = 45 ∨ mn = 50) (hq : mQ q) (hF : 5000 ≤ F) : ∀ (k N : Nat) (m : gM), k ≤ 2 ^ q 0 3 → k < N → RzA pg mn q S H L nk m → (∀ b', k ≤ b' → b' < 2 ^ q 0 3 → BRT q nk m b') →
    ∃ m', l_X4_resolve_22 gSH F N 60 (nI k - 1) m = l_X4_resolve_42 gSH F F 60 0 0 m' ∧ KRz mn m m' ∧ ∀ b', b' < 2 ^ q 0 3 → BRT q nk m' b' := by
  have li := hq.1.1.2.2.2.2.1
  have p64 : 2 ^ q 0 3 ≤ 64 := Nat.pow_le_pow_right (n := 2) (by decide) (show q 0 3 ≤ 6 from li)
  intro k
  induction k with
  | zero =>
    intro N m hk hN A hB
    obtain ⟨N, rfl⟩ : ∃ N', N = N' + 1 := ⟨N - 1, by omega⟩
    refine ⟨m, ?_, KRz.refl m, fun b' h => hB b' (Nat.zero_le _) h⟩
    show b_X4_resolve_22 gSH F (l_X4_resolve_22 gSH F N) 60 (nI 0 - 1) m = _
    unfold b_X4_resolve_22
    rw [if_pos (show nI 0 - 1 < 0 by decide)]
  | succ k ih =>
    intro N m hk hN A hB
    obtain ⟨N, rfl⟩ : ∃ N', N = N' + 1 := ⟨N - 1, by omega⟩
    obtain ⟨m1, g1, g2, g3⟩ := s_follow (F := F) hpg hmn hq hF (b := k) (by omega) (q 0 3) F 0 m (by omega) (by omega) A (fun b' h1 h2 => hB b' h1 h2) (fun j hj => by omega)
    have e : l_X4_resolve_22 gSH F (N + 1) 60 (nI (k + 1) - 1) m = l_X4_resolve_22 gSH F N 60 (nI k - 1) m1 := by
      show b_X4_resolve_22 gSH F (l_X4_resolve_22 gSH F N) 60 (nI (k + 1) - 1) m = _
      unfold b_X4_resolve_22 f_X4_followStatements
      rw [nI_pred, if_neg (nI_pos (by omega)), ob_60, g_ift, show (0 : Int32) = nI 0 from rfl, g1, g_bs, g_nmb, nI_dec]
    rw [e]
    obtain ⟨m2, c1, c2, c3⟩ := ih N m1 (by omega) (by omega) (A.k hpg hmn g2) g3
    exact ⟨m2, c1, g2.trans c2, c3⟩
theorem s_keep (hpg : pg = 5 ∨ pg = 25) (hmn : mn = 45 ∨ mn = 50) (hq : mQ q) (A : RzA pg mn q S H L nk m) (hr : r < q 0 2) {R : Int64} {j sc : Nat} (h3 : m.1 60 3 = nI j) (h4 : m.1 60 4 = nI sc) (hsc : sc < q 0 0) :
    ∃ m', f_X4_keep gSH F 60 (nI r) R m = some m' ∧ KRz mn m m' ∧ m'.2.1 (mn + 2) r = R ∧ (R = 0 → m'.1 (mn + 3) r = -1 ∧ m'.1 (mn + 4) r = -1) ∧ (R ≠ 0 → m'.1 (mn + 3) r = nI j ∧ ((m'.1 (mn + 4) r = 1 ∧ ∃ d, mH q nk r sc d) ∨ (m'.1 (mn + 4) r = 0 ∧ ¬ ∃ d, mH q nk r sc d))) ∧ (∀ r', r' ≠ r → m'.2.1 (mn + 2) r' = m.2.1 (mn + 2) r' ∧ m'.1 (mn + 3) r' = m.1 (mn + 3) r' ∧ m'.1 (mn + 4) r' = m.1 (mn + 4) r') ∧ m'.2.1 61 = m.2.1 61 := by
  obtain ⟨o1, o2, o3, b2, b3, b4, b5, b7, b8, b9, b10, b11, b12, b13, b14, b15, b16, b17, b18, b19, l3, l8⟩ := gP hpg
  obtain ⟨om, c1, c2, c3, c4⟩ := gMn hmn
  obtain ⟨P, z, ⟨mr0, mr1, mr2, mr3⟩, C, hn⟩ := A
  have l0 := hq.1.1.2.1
  have l1 := hq.1.1.2.2.1
  have l2 := hq.1.1.2.2.2.1
  have r4 := P.2.2.2.2.1
  have dec := (C.2.1 sc hsc).2.2.1
  have hnr := hn r hr
  have hv : (bs (q 0 1) (nk r) &&& bs (q 0 1) (fun d => decide (q 3 d = sc)) = 0) ↔ ¬ ∃ d, mH q nk r sc d := by
    have key : ∀ d, bm (bs (q 0 1) (nk r) &&& bs (q 0 1) (fun d => decide (q 3 d = sc))) d = true ↔ mH q nk r sc d := fun d => by
      rw [bm_and, bm_bs (by omega), bm_bs (by omega)]
      unfold mH
      simp only [Bool.and_eq_true, decide_eq_true_eq]
      constructor
      · rintro ⟨⟨a, e⟩, -, g⟩
        exact ⟨a, g, e⟩
      · rintro ⟨a, g, e⟩
        exact ⟨⟨a, e⟩, a, g⟩
    constructor
    · rintro e ⟨d, hd⟩
      have := (key d).mpr hd
      rw [e, bm_0] at this
      cases this
    · intro hno
      apply bm_ext
      intro d _
      rw [bm_0]
      cases e : bm (bs (q 0 1) (nk r) &&& bs (q 0 1) (fun d => decide (q 3 d = sc))) d with
      | false => rfl
      | true => exact absurd ⟨d, (key d).mp e⟩ hno
  have cl : (nI r).toNatClampNeg = r := nI_clamp (by omega)
  have ir : inB (nI r) 100 = true := g_inI (by omega) (by decide)
  have cs : (nI sc).toNatClampNeg = sc := nI_clamp (by omega)
  have is : inB (nI sc) 64 = true := g_inI (by omega) (by decide)
  have fin : ∀ y0, b_X4_keep_32 gSH F 60 (nI r) R y0 (nI r) (mn + 3) (gsL m (mn + 2) r R) = some (gsI (gsI (gsL m (mn + 2) r R) (mn + 3) r y0) (mn + 4) r (if R = 0 then -1 else if bs (q 0 1) (nk r) &&& bs (q 0 1) (fun d => decide (q 3 d = sc)) = 0 then 0 else 1)) := by
    intro y0
    unfold b_X4_keep_32
    have a1 : (gsI (gsL m (mn + 2) r R) (mn + 3) r y0).2.1 (mn + 1) r = bs (q 0 1) (nk r) := by
      show (gsL m (mn + 2) r R).2.1 (mn + 1) r = _
      rw [gL_2, if_neg (by omega)]
      exact hnr
    have a2 : (gsI (gsL m (mn + 2) r R) (mn + 3) r y0).2.1 (pg + 13) sc = bs (q 0 1) (fun d => decide (q 3 d = sc)) := by
      show (gsL m (mn + 2) r R).2.1 (pg + 13) sc = _
      rw [gL_2, if_neg (by omega)]
      exact dec
    have a3 : (gsI (gsL m (mn + 2) r R) (mn + 3) r y0).1 60 4 = nI sc := by
      rw [gI_1, if_neg (by omega)]
      exact h4
    rw [c3, ir, g_ift, g_nmb, ob_60, g_ift, cl, show (gsI (gsL m (mn + 2) r R) (mn + 3) r y0).2.2 = m.2.2 from rfl, z.2.2, g_bs, om, g_ift, mr0, g_bs, c1, ir, g_ift, z.2.1, g_bs, o1, g_ift, r4, g_bs, a3, b13, is, g_ift, a1, cs, a2]
    have f65 : ∀ y m', m'.2.2 = m.2.2 → b_X4_keep_65 gSH F 60 (nI r) R y m' = some (gsI m' (mn + 4) r (if R = 0 then -1 else if y = 0 then 0 else 1)) := by
      intro y m' hm'
      unfold b_X4_keep_65 b_X4_keep_95
      rw [ob_60, g_ift, hm', z.2.2, g_bs, om, g_ift, mr3, g_bs, c4, ir, g_ift, g_ift, g_ift, g_nmb, g_nmb, g_nmb, cl]
      by_cases hR : R = 0
      · rw [if_pos hR, if_pos hR]
      · rw [if_neg hR, if_neg hR]
        by_cases hy : y = 0
        · rw [if_pos hy, if_pos hy]
        · rw [if_neg hy, if_neg hy]
    rw [f65 0 (gsI (gsL m (mn + 2) r R) (mn + 3) r y0) rfl, f65 1 (gsI (gsL m (mn + 2) r R) (mn + 3) r y0) rfl, if_pos (rfl : (0 : Int32) = 0), if_neg one0]
    by_cases hz : bs (q 0 1) (nk r) &&& bs (q 0 1) (fun d => decide (q 3 d = sc)) = 0
    · rw [if_pos hz, if_pos hz]
    · rw [if_neg hz, if_neg hz]
  refine ⟨gsI (gsI (gsL m (mn + 2) r R) (mn + 3) r (if R = 0 then -1 else nI j)) (mn + 4) r (if R = 0 then -1 else if bs (q 0 1) (nk r) &&& bs (q 0 1) (fun d => decide (q 3 d = sc)) = 0 then 0 else 1), ?_, ((KRz.l (Or.inr rfl)).trans (KRz.i (by omega) (Or.inl rfl))).trans (KRz.i (by omega) (Or.inr rfl)), ?_, fun hR => ?_, fun hR => ?_, fun r' hr' => ?_, ?_⟩
  · unfold f_X4_keep
    rw [ob_60, g_ift, z.2.2, g_bs, om, g_ift, mr1, g_bs, c2, ir, g_ift, g_nmb, cl, show (gsL m (mn + 2) r R).2.2 = m.2.2 from rfl, z.2.2, g_bs, om, g_ift, mr2, g_bs, fin, fin, show (gsL m (mn + 2) r R).1 60 3 = nI j from h3]
    by_cases hR : R = 0
    · simp only [hR, if_true]
    · simp only [hR, if_false]
  · show (gsL m (mn + 2) r R).2.1 (mn + 2) r = _
    rw [gL_2, if_pos ⟨rfl, rfl⟩]
  · rw [if_pos hR, if_pos hR]
    simp [gI_1]
  · rw [if_neg hR, if_neg hR]
    refine ⟨by simp [gI_1], ?_⟩
    by_cases hz : ∃ d, mH q nk r sc d
    · rw [if_neg (fun e => (hv.mp e) hz)]
      exact Or.inl ⟨by simp [gI_1], hz⟩
    · rw [if_pos (hv.mpr hz)]
      exact Or.inr ⟨by simp [gI_1], hz⟩
  · refine ⟨?_, ?_, ?_⟩
    · show (gsL m (mn + 2) r R).2.1 (mn + 2) r' = _
      rw [gL_2, if_neg (by omega)]
    · rw [gI_1, if_neg (by omega), gI_1, if_neg (by omega)]
      rfl
    · rw [gI_1, if_neg (by omega), gI_1, if_neg (by omega)]
      rfl
  · show (gsL m (mn + 2) r R).2.1 61 = _
    exact gsL_ne (by omega)
theorem s_refs (hpg : pg = 5 ∨ pg = 25) (hmn : mn = 45 ∨ mn = 50) (hq : mQ q) (hF : 5000 ≤ F) : ∀ (k N r : Nat) (fo : Int64) (m : gM), r + k = q 0 2 → k < N → RzA pg mn q S H L nk m → (∀ b', b' < 2 ^ q 0 3 → BRT q nk m b') → (∀ r', r' < r → MNr q nk mn m r') → (0 < r → fo = m.2.1 (mn + 2) (r - 1)) →
    ∃ m', l_X4_resolve_42 gSH F N 60 fo (nI r) m = some m' ∧ KRz mn m m' ∧ ∀ r', r' < q 0 2 → MNr q nk mn m' r' := by
  obtain ⟨o1, o2, o3, b2, b3, b4, b5, b7, b8, b9, b10, b11, b12, b13, b14, b15, b16, b17, b18, b19, l3, l8⟩ := gP hpg
  have l2 := hq.1.1.2.2.2.1
  have li := hq.1.1.2.2.2.2.1
  have p64 : 2 ^ q 0 3 ≤ 64 := Nat.pow_le_pow_right (n := 2) (by decide) (show q 0 3 ≤ 6 from li)
  intro k
  induction k with
  | zero =>
    intro N r fo m hk hN A hB hM hfo
    obtain ⟨N, rfl⟩ : ∃ N', N = N' + 1 := ⟨N - 1, by omega⟩
    obtain ⟨P, z, mr, C, hn⟩ := id A
    refine ⟨m, ?_, KRz.refl m, fun r' h => hM r' (by omega)⟩
    show b_X4_resolve_42 gSH F (l_X4_resolve_42 gSH F N) 60 fo (nI r) m = _
    unfold b_X4_resolve_42
    rw [ob_60, g_ift, z.2.1, g_bs, o1, g_ift, P.2.1, g_bs, o3, g_ift, C.1.2.2.1, if_pos (nI_le (by omega) (by omega))]
  | succ k ih =>
    intro N r fo m hk hN A hB hM hfo
    obtain ⟨N, rfl⟩ : ∃ N', N = N' + 1 := ⟨N - 1, by omega⟩
    obtain ⟨P, z, mr, C, hn⟩ := id A
    have hr : r < q 0 2 := by omega
    have st := (C.2.2.2.1 r hr).2.2.2.2.2
    have sl := (hq.1.2.2.2.1 r hr).2.2
    -- the blocked set
    obtain ⟨b, hb, hbB, hbe⟩ : ∃ b, b < 2 ^ q 0 3 ∧ b.testBit = (fun i => decide (q 15 r = i + 1)) ∧ l_X4_resolve_42 gSH F (N + 1) 60 fo (nI r) m = b_X4_resolve_87 gSH F (l_X4_resolve_42 gSH F N) 60 (nI r) (nI b) fo (nI r) 60 m := by
      have e0 : l_X4_resolve_42 gSH F (N + 1) 60 fo (nI r) m = if nI (q 15 r) - 1 = -1 then b_X4_resolve_87 gSH F (l_X4_resolve_42 gSH F N) 60 (nI r) 0 fo (nI r) 60 m else b_X4_resolve_87 gSH F (l_X4_resolve_42 gSH F N) 60 (nI r) ((1 : Int32) <<< ((nI (q 15 r) - 1) &&& 31)) fo (nI r) 60 m := by
        show b_X4_resolve_42 gSH F (l_X4_resolve_42 gSH F N) 60 fo (nI r) m = _
        unfold b_X4_resolve_42
        rw [ob_60, g_ift, z.2.1, g_bs, o1, g_ift, P.2.1, g_bs, o3, g_ift, C.1.2.2.1, if_neg (nI_ge (by omega) (by omega)), g_bs, o1, g_ift, P.2.2.2.2.2.2.2.2.1, g_bs, b17, g_inI (by omega) (by decide), g_ift, nI_clamp (by omega), st, g_nmb]
      by_cases c : q 15 r = 0
      · refine ⟨0, Nat.two_pow_pos _, ?_, ?_⟩
        · funext i
          rw [Nat.zero_testBit, c]
          simp
        · rw [e0, if_pos ((nI_m1' (by omega)).mpr c)]
          rfl
      · refine ⟨2 ^ (q 15 r - 1), Nat.pow_lt_pow_right (by decide) (by omega), ?_, ?_⟩
        · funext i
          rw [Nat.testBit_two_pow]
          by_cases e : q 15 r = i + 1
          · have : q 15 r - 1 = i := by omega
            simp [e]
          · have : ¬ q 15 r - 1 = i := by omega
            simp [e, this]
        · rw [e0, if_neg (fun x => c ((nI_m1' (by omega)).mp x)), nI_p1 (by omega), sh_2k _ (by omega)]
    have ok : mOk q b.testBit r := fun i hi => by
      rw [hbB]
      simp [hi]
    obtain ⟨R, m1, a1, a2, a3, j, a4, a5, a6, a7, a8, a9⟩ := s_means (F := F) (bef := fo) hpg hmn hq hF (by omega) P z mr.1 C (hB b hb) hr (hn r hr) ok (fun hL d => by
      have kE := (hq.2.2.1 r hr).1 hL
      rw [hfo kE.1, (hM (r - 1) (by omega)).1 d, hbB, kE.2.2])
    have A1 := A.k hpg hmn (KRz.of60 (mn := mn) a2)
    obtain ⟨m2, c1, c2, c3, c4, c5, c6, c7⟩ := s_keep (F := F) hpg hmn hq A1 hr (R := R) a5 a6 a7
    rw [hbe]
    have e : b_X4_resolve_87 gSH F (l_X4_resolve_42 gSH F N) 60 (nI r) (nI b) fo (nI r) 60 m = l_X4_resolve_42 gSH F N 60 R (nI (r + 1)) m2 := by
      unfold b_X4_resolve_87
      rw [ob_60, g_ift, a1, g_bs, g_nmb, g_nmb, g_ift, c1, g_bs, g_nmb, nI_a1]
    rw [e]
    have K : KRz mn m m2 := (KRz.of60 a2).trans c2
    obtain ⟨m3, g1, g2, g3⟩ := ih N (r + 1) R m2 (by omega) (by omega) (A.k hpg hmn K) (fun b' hb' => by
      have := (hB b' hb').k60 a2
      unfold BRT at *
      rw [c7]
      exact this) (fun r' hr' => by
      by_cases c : r' = r
      · subst c
        refine ⟨fun d => by rw [c3, a3, hbB], fun h => ?_, fun h => ?_⟩
        · rw [c3] at h
          exact c4 h
        · rw [c3] at h
          obtain ⟨d1, d2⟩ := c5 h
          exact ⟨j, a4, d1, d2, (a9 h).1, fun hL => by
            have := (a9 h).2 hL
            rw [hbB] at this
            exact this⟩
      · have t := hM r' (by omega)
        obtain ⟨d1, d2, d3⟩ := c6 r' c
        have f1 : m1.2.1 (mn + 2) r' = m.2.1 (mn + 2) r' := by rw [a2.2.2]
        have f2 : m1.1 (mn + 3) r' = m.1 (mn + 3) r' := by rw [a2.1 (mn + 3) (by omega)]
        have f3 : m1.1 (mn + 4) r' = m.1 (mn + 4) r' := by rw [a2.1 (mn + 4) (by omega)]
        unfold MNr at *
        rw [d1, d2, d3, f1, f2, f3]
        exact t) (fun _ => by
      rw [show r + 1 - 1 = r by omega]
      exact c3.symm)
    exact ⟨m3, g1, K.trans g2, g3⟩
/-- resolve -/
theorem s_resolve (hpg : pg = 5 ∨ pg = 25) (hmn : mn = 45 ∨ mn = 50) (hq : mQ q) (hF : 5000 ≤ F) (P : PR m.2.2 pg) (z0 : m.2.2 60 0 = some 61) (mr : m.2.2 mn 0 = some (mn + 1) ∧ m.2.2 mn 1 = some (mn + 2) ∧ m.2.2 mn 2 = some (mn + 3) ∧ m.2.2 mn 3 = some (mn + 4)) (C : CPr pg m q S H L) (hn : ∀ r, r < q 0 2 → m.2.1 (mn + 1) r = bs (q 0 1) (nk r)) :
    ∃ m', f_X4_resolve gSH F 60 pg mn m = some m' ∧ KRz mn (gsR (gsR m 60 1 (some pg)) 60 2 (some mn)) m' ∧ ∀ r, r < q 0 2 → MNr q nk mn m' r := by
  obtain ⟨o1, -⟩ := gP hpg
  have li := hq.1.1.2.2.2.2.1
  have p64 : 2 ^ q 0 3 ≤ 64 := Nat.pow_le_pow_right (n := 2) (by decide) (show q 0 3 ≤ 6 from li)
  generalize hm0 : gsR (gsR m 60 1 (some pg)) 60 2 (some mn) = m0
  have e2 : ∀ c, c ≠ 60 → m0.2.2 c = m.2.2 c := fun c hc => by
    rw [← hm0]
    rw [gsR_ne hc, gsR_ne hc]
  have e1 : m0.1 = m.1 := by rw [← hm0]; rfl
  have e3 : m0.2.1 = m.2.1 := by rw [← hm0]; rfl
  have z : Rz m0 pg mn := by
    rw [← hm0]
    refine ⟨?_, ?_, ?_⟩
    · simp [gsR, z0]
    · simp [gsR]
    · simp [gsR]
  have A : RzA pg mn q S H L nk m0 := by
    refine ⟨?_, z, ?_, C.keep (fun c hc => ⟨by rw [e1], by rw [e3], e2 c (by omega)⟩), fun r hr => by rw [e3]; exact hn r hr⟩
    · unfold PR
      rw [e2 pg (by omega), e2 (pg + 1) (by omega), e2 (pg + 6) (by omega)]
      exact P
    · rw [e2 mn (by omega)]
      exact mr
  obtain ⟨m1, c1, c2, c3⟩ := s_sets (F := F) hpg hmn hq hF (2 ^ q 0 3) F m0 (Nat.le_refl _) (by omega) A (fun b' h1 h2 => by omega)
  have A1 := A.k hpg hmn c2
  obtain ⟨m2, g1, g2, g3⟩ := s_refs (F := F) hpg hmn hq hF (q 0 2) F 0 0 m1 (by omega) (by have := hq.1.1.2.2.2.1; omega) A1 c3 (fun r' h => by omega) (fun h => by omega)
  refine ⟨m2, ?_, c2.trans g2, g3⟩
  unfold f_X4_resolve
  rw [ob_60, g_ift, g_nmb, g_nmb, hm0, z.2.1, g_bs, o1, g_ift, A.2.2.2.1.1.2.2.2, sh_m1 _ (by omega), g_nmb, c1]
  exact g1
end RES
