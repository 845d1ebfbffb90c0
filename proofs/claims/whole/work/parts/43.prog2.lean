/-! THE CLASS'S PROGRAM: an import's end; the empty program -/
theorem p_impL {pg F ls la st : Nat} (hpg : pg = 5 ∨ pg = 25) (hla : la < 100) (hst : st < 6) : ∀ (k N r : Nat) (m : gM), PR m.2.2 pg → m.1 pg 12 = nI st → r + k = la + 1 → k < N →
    ∃ m', l_X2_importFrom_66 gSH F N pg (nI ls) (nI la) (nI r) m = some m' ∧ m'.2 = m.2 ∧ (∀ c, c ≠ pg → c ≠ pg + 17 → c ≠ pg + 18 → c ≠ pg + 19 → m'.1 c = m.1 c) ∧ (∀ j, m'.1 pg j = if j = 12 then nI (st + 1) else m.1 pg j) ∧ (∀ j, m'.1 (pg + 17) j = if r ≤ j ∧ j ≤ la then nI st else m.1 (pg + 17) j) ∧ (∀ j, m'.1 (pg + 18) j = if j = st then nI ls else m.1 (pg + 18) j) ∧ (∀ j, m'.1 (pg + 19) j = if j = st then nI la else m.1 (pg + 19) j) := by
  obtain ⟨o1, o2, o3, b2, b3, b4, b5, b7, b8, b9, b10, b11, b12, b13, b14, b15, b16, b17, b18, b19, l3, l8⟩ := gP hpg
  have cs : inB (nI st) 6 = true := g_inI hst (by decide)
  have cs' : (nI st).toNatClampNeg = st := nI_clamp (by omega)
  intro k
  induction k with
  | zero =>
    intro N r m P hs hr hN
    obtain ⟨r0, r1, r2, r3, r4, r5, r6, r7, r8, r9, r10, -⟩ := P
    obtain ⟨N, rfl⟩ : ∃ N', N = N' + 1 := ⟨N - 1, by omega⟩
    refine ⟨gsI (gsI (gsI m (pg + 18) st (nI ls)) (pg + 19) st (nI la)) pg 12 (nI (st + 1)), ?_, rfl, fun c h1 h2 h3 h4 => ?_, fun j => ?_, fun j => ?_, fun j => ?_, fun j => ?_⟩
    · show b_X2_importFrom_66 gSH F (l_X2_importFrom_66 gSH F N) pg (nI ls) (nI la) (nI r) m = _
      unfold b_X2_importFrom_66
      have c1 : nI la < nI r := nI_lt (by omega) (by omega)
      simp [c1, o1, r9, r10, b18, b19, hs, cs, cs', g_ift, g_nmb, g_bs, gI_1, gI_2, nI_1]
    · funext j
      simp [gI_1, h1, h3, h4]
    · simp [gI_1]
    · simp [gI_1]
      intro h1 h2
      omega
    · simp [gI_1]
    · simp [gI_1]
  | succ k ih =>
    intro N r m P hs hr hN
    obtain ⟨r0, r1, r2, r3, r4, r5, r6, r7, r8, r9, r10, rest⟩ := P
    obtain ⟨N, rfl⟩ : ∃ N', N = N' + 1 := ⟨N - 1, by omega⟩
    obtain ⟨m', e1, e2, e3, e4, e5, e6, e7⟩ := ih N (r + 1) (gsI m (pg + 17) r (nI st)) ⟨r0, r1, r2, r3, r4, r5, r6, r7, r8, r9, r10, rest⟩ (by simp [gI_1, hs]) (by omega) (by omega)
    refine ⟨m', ?_, e2, fun c h1 h2 h3 h4 => ?_, fun j => ?_, fun j => ?_, fun j => ?_, fun j => ?_⟩
    · rw [← e1]
      show b_X2_importFrom_66 gSH F (l_X2_importFrom_66 gSH F N) pg (nI ls) (nI la) (nI r) m = _
      unfold b_X2_importFrom_66
      have c1 : ¬ nI la < nI r := nI_nlt (by omega) (by omega)
      have c2 : inB (nI r) 100 = true := g_inI (by omega) (by decide)
      have c3 : (nI r).toNatClampNeg = r := nI_clamp (by omega)
      rw [if_neg c1, o1, g_ift, r8, g_bs, b17, c2, g_ift, c3, hs, g_nmb, g_nmb, nI_a1]
    · rw [e3 c h1 h2 h3 h4]
      exact gsI_ne h2
    · rw [e4]
      simp [gI_1]
    · rw [e5]
      simp only [gI_1]
      by_cases h1 : j = r
      · subst h1
        simp
        omega
      · by_cases h2 : r + 1 ≤ j ∧ j ≤ la
        · rw [if_pos h2, if_pos (by omega)]
        · rw [if_neg h2, if_neg (by omega), if_neg (by omega)]
    · rw [e6]
      simp [gI_1]
    · rw [e7]
      simp [gI_1]
theorem p_import {pg F : Nat} {m : gM} {q : Nat → Nat → Nat} {S : Nat → Nat} {H L : Nat → Int64} (hpg : pg = 5 ∨ pg = 25) (P : PR m.2.2 pg) (h : CPr pg m q S H L) (hS : aS q) (h8 : q 0 8 < q 0 2) (h3' : q 0 3 < 6) (hF : 5000 ≤ F) :
    ∃ m', f_X2_importFrom gSH F pg (nI (q 0 8)) (nI (q 0 6)) m = some m' ∧ CPr pg m' (aImp q) S H L ∧ gKeep (pgZ pg) m m' ∧ m'.2.2 = m.2.2 := by
  obtain ⟨⟨a1, a2, a3, a4⟩, h2, h3, h4, h5⟩ := h
  obtain ⟨o1, o2, o3, b2, b3, b4, b5, b7, b8, b9, b10, b11, b12, b13, b14, b15, b16, b17, b18, b19, l3, l8⟩ := gP hpg
  have P' := P
  obtain ⟨r0, r1, r2, r3, r4, r5, r6, r7, r8, r9, r10, -⟩ := P
  obtain ⟨⟨s1, s2, s3, s4, s5, s6, s7⟩, -⟩ := hS
  obtain ⟨m', e1, e2, e3, e4, e5, e6, e7⟩ := p_impL (F := F) (ls := q 0 8) (la := q 0 2 - 1) (st := q 0 3) hpg (by omega) h3' (q 0 2 - q 0 8) F (q 0 8) (gsI (gsI m (pg + 16) (q 0 2 - 1) (nI (q 0 6))) (pg + 14) (q 0 6) (m.1 (pg + 14) (q 0 6) ||| bl32 (q 0 3))) P' (by simp [gI_1, a4]) (by omega) (by omega)
  have hc : ∀ c, c ≠ pg → c ≠ pg + 14 → c ≠ pg + 16 → c ≠ pg + 17 → c ≠ pg + 18 → c ≠ pg + 19 → m'.1 c = m.1 c := by
    intro c h1 h2 h3 h4 h5 h6
    rw [e3 c h1 h4 h5 h6, gsI_ne h2, gsI_ne h3]
  have h14 : ∀ j, m'.1 (pg + 14) j = if j = q 0 6 then m.1 (pg + 14) (q 0 6) ||| bl32 (q 0 3) else m.1 (pg + 14) j := by
    intro j
    rw [e3 (pg + 14) (by omega) (by omega) (by omega) (by omega)]
    simp [gI_1]
  have h16 : ∀ j, m'.1 (pg + 16) j = if j = q 0 2 - 1 then nI (q 0 6) else m.1 (pg + 16) j := by
    intro j
    rw [e3 (pg + 16) (by omega) (by omega) (by omega) (by omega)]
    simp [gI_1]
  have hl : ∀ c, m'.2.1 c = m.2.1 c := by intro c; rw [e2]; rfl
  refine ⟨m', ?_, ⟨⟨?_, ?_, ?_, ?_⟩, fun j hj => ?_, fun j hj => ?_, fun j hj => ?_, fun j hj => ?_⟩, fun c hz => ⟨?_, hl c, ?_⟩, ?_⟩
  · rw [← e1]
    unfold f_X2_importFrom
    have c1 : nI (q 0 2) - 1 = nI (q 0 2 - 1) := pk_sub (b := 1) (by omega)
    have c2 : ¬ nI (q 0 8) < 0 := nI_pos (by omega)
    have c3 : ¬ nI (q 0 2 - 1) < nI (q 0 8) := nI_nlt (by omega) (by omega)
    have c4 : ¬ (6 : Int32) ≤ nI (q 0 3) := nI_ge (b := 6) h3' (by decide)
    have c5 : ¬ nI (q 0 6) < 0 := nI_pos (by omega)
    have c6 : nI (q 0 6) < nI (q 0 0) := nI_lt s6 (by omega)
    have c7 : inB (nI (q 0 2 - 1)) 100 = true := g_inI (by omega) (by decide)
    have c8 : inB (nI (q 0 6)) 64 = true := g_inI (by omega) (by decide)
    have c9 : (nI (q 0 2 - 1)).toNatClampNeg = q 0 2 - 1 := nI_clamp (by omega)
    have c10 : (nI (q 0 6)).toNatClampNeg = q 0 6 := nI_clamp (by omega)
    simp [o1, o3, r1, r7, r5, a1, a3, a4, b16, b14, c1, c2, c3, c4, c5, c6, c7, c8, c9, c10, g_ift, g_nmb, g_bs, gI_1, gI_2, bl32]
  · rw [e4]; simp [aImp, gI_1, a1]
  · rw [hc (pg + 1) (by omega) (by omega) (by omega) (by omega) (by omega) (by omega), a2]
    simp [aImp]
  · rw [hc (pg + 6) (by omega) (by omega) (by omega) (by omega) (by omega) (by omega), a3]
    simp [aImp]
  · rw [e4]; simp [aImp]
  · have hj' : j < q 0 0 := by simpa [aImp] using hj
    obtain ⟨k1, k2, k3, k4⟩ := h2 j hj'
    rw [hc (pg + 11) (by omega) (by omega) (by omega) (by omega) (by omega) (by omega), hc (pg + 12) (by omega) (by omega) (by omega) (by omega) (by omega) (by omega), hl, h14]
    refine ⟨by simpa [aImp] using k1, by simpa [aImp] using k2, by simpa [aImp] using k3, ?_⟩
    have z : bi (q 0 3) (fun s => decide ((aImp q) 12 s = j)) = bi (q 0 3) (fun s => decide (q 12 s = j)) := bi_cong _ (fun d hd => by
      have : d ≠ q 0 3 := by omega
      simp [aImp, this])
    have e03 : (aImp q) 0 3 = q 0 3 + 1 := by simp [aImp]
    rw [e03]
    show _ = if decide ((aImp q) 12 (q 0 3) = j) = true then bi (q 0 3) (fun s => decide ((aImp q) 12 s = j)) ||| bl32 (q 0 3) else bi (q 0 3) (fun s => decide ((aImp q) 12 s = j))
    rw [z]
    have e12 : (aImp q) 12 (q 0 3) = q 0 6 := by simp [aImp]
    rw [e12, ← k4]
    by_cases e : j = q 0 6
    · subst e
      simp
    · simp [e, Ne.symm e]
  · have := h3 j (by simpa [aImp] using hj)
    rw [hc (pg + 2) (by omega) (by omega) (by omega) (by omega) (by omega) (by omega), hc (pg + 3) (by omega) (by omega) (by omega) (by omega) (by omega) (by omega), hl, hl, hc (pg + 15) (by omega) (by omega) (by omega) (by omega) (by omega) (by omega)]
    simpa [aImp] using this
  · have hj' : j < q 0 2 := by simpa [aImp] using hj
    obtain ⟨k1, k2, k3, k4, k5, k6⟩ := h4 j hj'
    rw [hc (pg + 7) (by omega) (by omega) (by omega) (by omega) (by omega) (by omega), hc (pg + 8) (by omega) (by omega) (by omega) (by omega) (by omega) (by omega), hl, hl, h16, e5]
    refine ⟨by simpa [aImp] using k1, by simpa [aImp] using k2, by simpa [aImp] using k3, by simpa [aImp] using k4, ?_, ?_⟩
    · by_cases e : j = q 0 2 - 1
      · rw [if_pos e]
        simp [aImp, e, nI_pred]
      · rw [if_neg e]
        simpa [aImp, e] using k5
    · by_cases e : q 0 8 ≤ j ∧ j ≤ q 0 2 - 1
      · rw [if_pos e]
        simp [aImp, e, nI_pred]
      · rw [if_neg e]
        simp only [gI_1]
        simpa [aImp, e] using k6
  · have hj' : j < q 0 3 + 1 := by simpa [aImp] using hj
    rw [e6, e7]
    by_cases e : j = q 0 3
    · subst e
      simp [aImp]
    · have := h5 j (by omega)
      simpa [aImp, e, gI_1] using this
  · unfold pgZ at hz
    exact hc c (by omega) (by omega) (by omega) (by omega) (by omega) (by omega)
  · rw [e2]; rfl
  · rw [e2]; rfl
theorem p_empty {pg F : Nat} {m : gM} {S : Nat → Nat} {H L : Nat → Int64} (hpg : pg = 5 ∨ pg = 25) (P : PR m.2.2 pg) : ∃ m', f_X2_empty gSH F pg m = some m' ∧ CPr pg m' aQ0 S H L ∧ gKeep (pgZ pg) m m' ∧ m'.2.2 = m.2.2 := by
  obtain ⟨o1, o2, o3, b2, b3, b4, b5, b7, b8, b9, b10, b11, b12, b13, b14, b15, b16, b17, b18, b19, l3, l8⟩ := gP hpg
  obtain ⟨r0, r1, r2, r3, r4, r5, r6, r7, r8, r9, r10, -⟩ := P
  refine ⟨gsI (gsI (gsL (gsI (gsI (gsI (gsI (gsI (gsI m pg 11 0) pg 12 0) (pg + 1) 4 0) (pg + 6) 4 0) (pg + 12) 0 0) (pg + 11) 0 (-1)) (pg + 13) 0 0) (pg + 14) 0 0) pg 11 1, ?_, ⟨⟨?_, ?_, ?_, ?_⟩, fun j hj => ?_, fun j hj => ?_, fun j hj => ?_, fun j hj => ?_⟩, ?_, rfl⟩
  · unfold f_X2_empty f_X2_makeScope
    have c1 : (0 : Int32) < 64 := by decide
    have c2 : inB (0 : Int32) 64 = true := by decide
    have c3 : (0 : Int32).toNatClampNeg = 0 := by decide
    simp [o1, o2, o3, r0, r1, r2, r3, r4, r5, b11, b12, b13, b14, c1, c2, c3, g_ift, g_nmb, g_bs, gI_1, gI_2, gL_1, gL_2, gL_3]
  · simp [aQ0, gI_1]; rfl
  · simp [aQ0, gI_1, gL_1]; rfl
  · simp [aQ0, gI_1, gL_1]; rfl
  · simp [aQ0, gI_1, gL_1]; rfl
  · have e : j = 0 := by simpa [aQ0] using hj
    subst e
    simp [aQ0, gI_1, gI_2, gL_1, gL_2, bs, bi, nI_0]
  · simp [aQ0] at hj
  · simp [aQ0] at hj
  · simp [aQ0] at hj
  · exact ((((((((gKeep.i (by unfold pgZ; omega)).trans (gKeep.i (by unfold pgZ; omega))).trans (gKeep.i (by unfold pgZ; omega))).trans (gKeep.i (by unfold pgZ; omega))).trans (gKeep.i (by unfold pgZ; omega))).trans (gKeep.i (by unfold pgZ; omega))).trans (gKeep.l (by unfold pgZ; omega))).trans (gKeep.i (by unfold pgZ; omega))).trans (gKeep.i (by unfold pgZ; omega))
