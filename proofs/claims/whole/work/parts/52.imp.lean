/-! THE REFERENCE'S READER: imports, atoms -/
section REF
variable {b : Nat → Nat} {n F : Nat} {m0 m : gM} {q qa qh : Nat → Nat → Nat} {x21 x50 x51 : Int32} {i j : Nat}
theorem e_long1 {P : Int32 → gM → Prop} (hR : RPt m0) (hF : 5000 ≤ F) (R : RM b n m0 m qh x21 x50 x51) (T : TKn b n m j) (hk : kK b n j = 264) (hq : qh 0 2 ≤ 100) (h50 : 0 < qh 0 2 → x50 = 0) (h0 : 100 ≤ qh 0 2 → ∀ m', FLt b n m0 m' 4 j → P 0 m') (h1 : ¬ 100 ≤ qh 0 2 → ∀ m' x2, RM b n m0 m' (aRef qh (qh 0 6) j) x21 0 x51 → TKn b n m' j → eWp (lgT F (l_X8_readLong_7 gSH F (F - 1)) x2 m') P) : eWp (f_X8_readLong gSH F 62 m) P := by
  unfold f_X8_readLong
  rw [ob_62, g_ift, g_nmb]
  obtain ⟨N, hN⟩ : ∃ N', F = N' + 1 := ⟨F - 1, by omega⟩
  have e : l_X8_readLong_7 gSH F F = l_X8_readLong_7 gSH F (N + 1) := by rw [← hN]
  rw [e]
  have e2 : F - 1 = N := by omega
  rw [e2] at h1
  show eWp (b_X8_readLong_7 gSH F (l_X8_readLong_7 gSH F N) 62 1 (m.1 62 49) m) _
  unfold b_X8_readLong_7
  have e20 := R.2.2.1.1.2.2
  rw [if_neg one0, ob_62, g_ift, e20]
  by_cases h100 : 100 ≤ qh 0 2
  · rw [if_pos (show nI (qh 0 2) = 100 by rw [show qh 0 2 = 100 by omega]; rfl)]
    exact x_bl (c := 4) R T (h0 h100)
  rw [if_neg (show ¬ nI (qh 0 2) = 100 from fun e => by
    have := (k_lit (k := qh 0 2) (v := 100) (by omega) (by omega)).mp e
    omega), if_pos rfl]
  obtain ⟨m6, e6, R6, T6⟩ := e_ref (F := F) hR R T hk (by omega) (x2 := m.1 62 49) R.2.2.2.1.1.2.2 (l_X8_readLong_7 gSH F N)
  have fin := h1 h100 m6 (m.1 62 49) R6 T6
  rw [← e6] at fin
  by_cases hp : 0 < qh 0 2
  · rw [if_neg (show ¬ nI (qh 0 2) ≤ 0 from nI_ge (a := 0) hp (by omega)), if_pos (R.2.2.2.2.2.1.trans (h50 hp))]
    exact fin
  · rw [if_pos (show nI (qh 0 2) ≤ 0 by rw [show qh 0 2 = 0 by omega]; decide)]
    exact fin
theorem aT_atom {k : Nat} (hs : q 0 7 = 10 ∨ q 0 7 = 11 ∨ q 0 7 = 12) (ht : topF q ≠ 10) (hk : k = 40 ∨ k = 259 ∨ k = 260 ∨ k = 261 ∨ k = 262 ∨ k = 264 ∨ k = 265) : aT i k q = aAtom i k q := by
  rcases hs with h | h | h <;> rcases hk with rfl | rfl | rfl | rfl | rfl | rfl | rfl <;> simp [aT, h, aBeh, ht]
theorem aT_beh {k : Nat} (hs : q 0 7 = 11 ∨ q 0 7 = 12) (hk : q 0 7 = 11 → k ≠ 46) : aT i k q = aBeh i k q := by
  rcases hs with h | h
  · simp [aT, h, hk h]
  · simp [aT, h]
theorem aA_no {k : Nat} (h1 : k ≠ 40) (h2 : k ≠ 259) (h3 : k ≠ 260) (h4 : k ≠ 261) (h5 : k ≠ 262) (h6 : k ≠ 264) (h7 : k ≠ 265) : aAtom i k q = (2, q) := by simp [aAtom, h1, h2, h3, h4, h5, h6, h7]
/-- in an expression -/
theorem bd_x (bd : aBd q) (hs : q 0 7 ≠ 0) : (q 0 7 = 10 ∨ q 0 7 = 11 ∨ q 0 7 = 12) ∧ 0 < q 0 4 ∧ (topF q = 11 ∨ isE (topF q)) ∧ topF q = q 9 (q 0 4 - 1) := by
  rcases bd.1 with h | h
  · exact absurd h.1 hs
  · have e : topF q = q 9 (q 0 4 - 1) := by simp [topF, h.2.1]
    exact ⟨h.1, h.2.1, by rw [e]; exact h.2.2, e⟩
theorem bd_cong {q' : Nat → Nat → Nat} (bd : shp (q 0 4) (q 9) ∧ dSc (q 0 4) (q 0 6) (q 9) (q 10)) (e4 : q' 0 4 = q 0 4) (e6 : q' 0 6 = q 0 6) (e9 : ∀ j, j < q 0 4 → q' 9 j = q 9 j) (e10 : ∀ j, j < q 0 4 → q' 10 j = q 10 j) : shp (q' 0 4) (q' 9) ∧ dSc (q' 0 4) (q' 0 6) (q' 9) (q' 10) := by
  rw [e4, e6]
  refine ⟨bd.1.cong e9, fun j hj hf => ?_⟩
  rw [e9 j hj] at hf
  obtain ⟨a, c⟩ := bd.2 j hj hf
  refine ⟨fun h => by rw [e10 j hj]; exact a h, fun h => by rw [e10 j hj, e10 (j + 1) h]; exact c h⟩
/-- a number -/
theorem c_num (hM : MadeR m0 b n) (hW : WdR m0) (hF : 5000 ≤ F) (h : RB b n m0 m i q) (hst : q 0 7 ≠ 0) (hk : kK b n i = 265) : eWp (f_X8_exp gSH F 62 m) (eOut b n m0 i q) := by
  have hb : ∀ i, i < n → b i < 256 := fun i hi => (hM.2.2.2 i hi).1
  obtain ⟨x50, x51, R, T, w, bd, h50, h51, h12, -⟩ := h
  obtain ⟨s, dp, tf, te⟩ := bd_x bd hst
  have e1 : aT i (kK b n i) q = (0, aTurn q 12) := by
    rw [hk, aT_atom s (by unfold isE at tf; omega) (by omega)]
    simp [aAtom]
  obtain ⟨a, ha, hai⟩ : ∃ a, x51 = nI a ∧ a ≤ i := by
    rcases s with h | h | h
    · exact ⟨0, h51 h, Nat.zero_le _⟩
    · obtain ⟨a, h1, h2, h3⟩ := h12 (Or.inl h); exact ⟨a, h1, h3⟩
    · obtain ⟨a, h1, h2, h3⟩ := h12 (Or.inr h); exact ⟨a, h1, h3⟩
  unfold f_X8_exp
  rw [ob_62, g_ift, if_pos ((tk_2 hb T).mpr hk), R.2.2.2.2.2.2, ha, nI_1, g_nmb]
  have z3 : (aTurn q 12) 0 3 = q 0 3 := by simp [aTurn, uq]
  have z7 : (aTurn q 12) 0 7 = 12 := by simp [aTurn, uq]
  have R8 := ((R.x (nI (a + 1))).2.2).e2 (q' := aTurn q 12) (by simp [aTurn, uq]) (fun r => by simp [aTurn, uq])
  refine (fin_next hM hW hF (by rw [z3]; exact R8) (T.x (by omega)) (by omega) (.step rfl e1 T.2.2.2.2.2.2 (by omega)) (by omega) (aW_go w e1) ⟨Or.inr ⟨by omega, ?_, ?_⟩, bd_cong bd.2 (by simp [aTurn, uq]) (by simp [aTurn, uq]) (fun j _ => by simp [aTurn, uq]) (fun j _ => by simp [aTurn, uq])⟩ (by simpa [aTurn, uq] using h50) (fun h => by omega) (fun h => ⟨a + 1, rfl, by omega, by omega⟩) (fun h => by omega)).tl (fun r m h => h.z)
  · simpa [aTurn, uq] using dp
  · rw [te] at tf
    simpa [aTurn, uq] using tf
/-- a long name in an expression -/
theorem c_name (hM : MadeR m0 b n) (hW : WdR m0) (hR : RPt m0) (hF : 5000 ≤ F) (h : RB b n m0 m i q) (hst : q 0 7 ≠ 0) (hk : kK b n i = 264) : eWp (f_X8_exp gSH F 62 m) (eOut b n m0 i q) := by
  have hb : ∀ i, i < n → b i < 256 := fun i hi => (hM.2.2.2 i hi).1
  obtain ⟨x50, x51, R, T, w, bd, h50, h51, h12, -⟩ := h
  obtain ⟨s, dp, tf, te⟩ := bd_x bd hst
  have t0 := T.2.2.2.2.2.2
  have e1 : aT i (kK b n i) q = aFirst i q := by
    rw [hk, aT_atom s (by unfold isE at tf; omega) (by omega)]
    simp [aAtom]
  obtain ⟨a, ha, hai⟩ : ∃ a, x51 = nI a ∧ a ≤ i := by
    rcases s with h | h | h
    · exact ⟨0, h51 h, Nat.zero_le _⟩
    · obtain ⟨a, h1, h2, h3⟩ := h12 (Or.inl h); exact ⟨a, h1, h3⟩
    · obtain ⟨a, h1, h2, h3⟩ := h12 (Or.inr h); exact ⟨a, h1, h3⟩
  unfold f_X8_exp
  rw [ob_62, g_ift, if_neg (fun e => by have := (tk_2 hb T).mp e; omega), if_pos ((tk_1 hb T).mpr hk), R.2.2.2.2.2.2, ha, nI_1, g_nmb, g_nmb]
  have R1 := (((R.x (nI (a + 1))).2.2).x 0).2.1
  have T1 : TKn b n (gsI (gsI m 62 51 (nI (a + 1))) 62 50 0) i := (T.x (by omega)).x (by omega)
  have n4 := hM.2.2.1
  have tb := T.2.2.2.2.2.1
  refine (e_long1 hR hF R1 T1 hk w.1.1.2.2.2.1 (fun _ => rfl) (fun hc m' hf => ?_) (fun hc m' x2 R2 T2 => ?_)).tl (fun r m h => h.z)
  · exact out_hit (c := 4) (qx := q) .refl t0 (by rw [e1]; unfold aFirst; rw [if_pos hc]) (by decide) hf
  have e2 : aT i (kK b n i) q = (0, aTurn (aRef q (q 0 6) i) 11) := by rw [e1]; unfold aFirst; rw [if_neg hc]
  refine (e_longT (qs := aTurn (aRef q (q 0 6) i) 11) (qf := q) (j0 := i) hM hW hR hF (4001 - i) (F - 1) i m' (aTurn (aRef q (q 0 6) i) 11) (aRef q (q 0 6) i) x2 (by omega) (by omega) R2 T2 (by omega) ?_ (aW_go w e2) (by simp [aTurn, uq]) (by simp [aTurn, aRef, uq]) (.step rfl e2 t0 (by omega)) (Nat.le_refl _) (fun _ _ _ => rfl) ?_ ?_ (fun _ _ _ _ => rfl)).mono ?_
  · intro c r hc h0
    simp only [aTurn, uq]
    rw [if_neg (by omega)]
  · intro c r hc
    simp only [aRef, uq]
    repeat' rw [if_neg (by omega)]
  · exact Nat.le_refl _
  · rintro r m2 (⟨rfl, j', qb, qh', g, hj, s7, hc, R3, T3, w3, hp, P, Fa, Fh, -, -⟩ | h)
    rotate_left
    · exact Or.inr h
    refine Or.inl ⟨rfl, j', qb, g, hj, 0, nI (a + 1), ?_, T3, w3, ⟨Or.inr ⟨by omega, ?_, ?_⟩, ?_⟩, fun _ => rfl, fun h => by omega, fun _ => ⟨a + 1, rfl, by omega, by omega⟩, fun _ => hc⟩
    · have e3 : qb 0 3 = q 0 3 := (Fa 0 3 (by omega)).trans (by simp [aTurn, aRef, uq])
      rw [e3]
      refine R3.eq (fun c r h1 h2 => ?_)
      by_cases hc8 : c ≤ 8 ∧ (c = 0 → r ≤ 2)
      · exact (P c r hc8.1 hc8.2).symm
      · rw [Fa c r (by omega), Fh c r (by omega)]
        simp only [aTurn, aRef, uq]
        repeat' rw [if_neg (by omega)]
    · rw [Fa 0 4 (by omega)]
      simpa [aTurn, aRef, uq] using dp
    · rw [te] at tf
      rw [Fa 0 4 (by omega), Fa 9 _ (by omega)]
      simpa [aTurn, aRef, uq] using tf
    · refine bd_cong bd.2 ?_ ?_ (fun j _ => ?_) (fun j _ => ?_)
      · rw [Fa 0 4 (by omega)]
        simp [aTurn, aRef, uq]
      · rw [Fa 0 6 (by omega)]
        simp [aTurn, aRef, uq]
      · rw [Fa 9 j (by omega)]
        simp [aTurn, aRef, uq]
      · rw [Fa 10 j (by omega)]
        simp [aTurn, aRef, uq]
/-- import LONG ; -/
theorem c_imp (hM : MadeR m0 b n) (hW : WdR m0) (hR : RPt m0) (hF : 5000 ≤ F) (h : RB b n m0 m i q) (hst : q 0 7 = 0) (hk : kK b n i = 257) : eWp (f_X8_dec gSH F 62 m) (eOut b n m0 i q) := by
  have hb : ∀ i, i < n → b i < 256 := fun i hi => (hM.2.2.2 i hi).1
  obtain ⟨x50, x51, R, T, w, bd, h50, -, -, -⟩ := h
  have e1 : aT i 257 q = (0, aTurn q 2) := by simp [aT, aDec, hst]
  have g1 : aGo (kK b n) i q (i + 1) (aTurn q 2) := .step hk e1 (by decide) (by decide)
  have w1 := aW_go w e1
  have s7 : (aTurn q 2) 0 7 = 2 := by simp [aTurn, uq]
  have hS := w.1
  have l1 := hS.1.2.2.1
  have l2 := hS.1.2.2.2.1
  have l3 := hS.1.2.2.2.2.1
  have l5 := hS.1.2.2.2.2.2.2
  have hdp := (aZs_d w.2.1 l5 l1).1
  unfold f_X8_dec
  rw [ob_62, g_ift, if_neg (show ¬ m.1 62 38 = 10 from fun e => by have := (tk_w hb T (w := 10) (by omega) (by omega)).mp e; omega), if_pos (show m.1 62 38 = 11 from (tk_w hb T (w := 11) (by omega) (by omega)).mpr hk)]
  refine x_nx hM hW hF R T (by omega) (fun m' hbad hf => out_bad g1 hbad hf) (fun m1 R1 T1 => ?_)
  have t1 := T1.2.2.2.2.2.2
  by_cases hn : kK b n (i + 1) = 264
  rotate_left
  · rw [if_neg (fun e => hn ((tk_1 hb T1).mp e))]
    exact x_od R1 T1 (fun m' hf => out_hit g1 t1 (show aT (i + 1) (kK b n (i + 1)) (aTurn q 2) = (2, aTurn q 2) by simp [aT, s7, hn]) (by decide) hf)
  have f3 : (aTurn q 2) 0 3 = q 0 3 := by simp [aTurn, uq]
  have eN : aT (i + 1) (kK b n (i + 1)) (aTurn q 2) = aImpN (i + 1) (aTurn q 2) := by simp [aT, aName, s7, hn]
  rw [if_pos ((tk_1 hb T1).mpr hn), R1.2.2.2.2.1]
  by_cases h6 : 6 ≤ q 0 3
  · rw [if_pos (show nI (q 0 3) = 6 by rw [show q 0 3 = 6 by omega]; rfl)]
    exact x_bl (c := 4) R1 T1 (fun m' hf => out_hit (c := 4) (qx := aTurn q 2) g1 t1 (by rw [eN]; unfold aImpN; rw [f3, if_pos h6]) (by decide) hf)
  rw [if_neg (show ¬ nI (q 0 3) = 6 from fun e => by
    have := (k_lit (k := q 0 3) (v := 6) (by omega) (by omega)).mp e
    omega), nI_1, g_nmb]
  have R2 := (R1.x (nI (q 0 3 + 1))).1
  have T2 : TKn b n (gsI m1 62 21 (nI (q 0 3 + 1))) (i + 1) := T1.x (by omega)
  generalize hp1 : uq (aPush (aTurn q 2) 10 (q 0 6)) 0 8 (q 0 2) = p1
  have eF : aT (i + 1) (kK b n (i + 1)) (aTurn q 2) = aFirst (i + 1) p1 := by
    rw [eN]
    unfold aImpN
    rw [f3, if_neg h6, ← hp1]
    simp [aTurn, uq]
  have f2 : p1 0 2 = q 0 2 := by rw [← hp1]; simp [aTurn, aPush, uq]
  have f6 : p1 0 6 = q 0 6 := by rw [← hp1]; simp [aTurn, aPush, uq]
  have n4 := hM.2.2.1
  have tb := T1.2.2.2.2.2.1
  have key : eWp (f_X8_readLong gSH F 62 (gsI m1 62 21 (nI (q 0 3 + 1)))) (eLong b n m0 i q (aTurn (aRef p1 (q 0 6) (i + 1)) 11) q (i + 1) (nI (q 0 3 + 1)) x51) := by
    refine e_long1 hR hF R2 T2 hn l2 h50 (fun hc m' hf => ?_) (fun hc m' x2 R3 T3 => ?_)
    · exact long_bad (out_hit (c := 4) (qx := p1) g1 t1 (by rw [eF]; unfold aFirst; rw [f2, if_pos hc]) (by decide) hf)
    have e2 : aT (i + 1) (kK b n (i + 1)) (aTurn q 2) = (0, aTurn (aRef p1 (q 0 6) (i + 1)) 11) := by rw [eF]; unfold aFirst; rw [f2, f6, if_neg hc]
    refine e_longT (qs := aTurn (aRef p1 (q 0 6) (i + 1)) 11) (qf := q) (j0 := i + 1) hM hW hR hF (4001 - (i + 1)) (F - 1) (i + 1) m' (aTurn (aRef p1 (q 0 6) (i + 1)) 11) (aRef q (q 0 6) (i + 1)) x2 (by omega) (by omega) R3 T3 (by omega) ?_ (aW_go w1 e2) (by simp [aTurn, uq]) (by simp [aTurn, aRef, uq]) (g1.trans (.step rfl e2 t1 (by omega))) (Nat.le_refl _) (fun _ _ _ => rfl) ?_ (Nat.le_refl _) (fun _ _ _ _ => rfl)
    · intro c r hc h0
      rw [← hp1]
      simp only [aTurn, aRef, aPush, uq]
      have h7 : ¬ (c = 0 ∧ r = 7) := by omega
      have h8 : ¬ (c = 0 ∧ r = 8) := by omega
      have h4 : ¬ (c = 0 ∧ r = 4) := by omega
      have h9 : ¬ (c = 9 ∧ r = q 0 4) := by omega
      have h10 : ¬ (c = 10 ∧ r = q 0 4) := by omega
      have h11 : ¬ (c = 11 ∧ r = q 0 4) := by omega
      simp [h7, h8, h4, h9, h10, h11]
    · intro c r hc
      simp only [aRef, uq]
      repeat' rw [if_neg (by omega)]
  refine key.bn ?_
  rintro r m2 (⟨rfl, j', qb, qh, g, hj, s11, hc, R3, T3, w3, hp, P, Fa, Fh, -, hrow⟩ | ⟨rfl, h⟩)
  rotate_left
  · rw [if_pos rfl]
    exact .so (Or.inr ⟨rfl, h⟩)
  rw [if_neg one0]
  have t3 := T3.2.2.2.2.2.2
  have q3 : qb 0 3 = q 0 3 := (Fa 0 3 (by omega)).trans (by rw [← hp1]; simp [aTurn, aRef, aPush, uq])
  have q4 : qb 0 4 = q 0 4 + 1 := (Fa 0 4 (by omega)).trans (by rw [← hp1]; simp [aTurn, aRef, aPush, uq])
  have q5 : qb 0 5 = q 0 5 := (Fa 0 5 (by omega)).trans (by rw [← hp1]; simp [aTurn, aRef, aPush, uq])
  have q6 : qb 0 6 = q 0 6 := (Fa 0 6 (by omega)).trans (by rw [← hp1]; simp [aTurn, aRef, aPush, uq])
  have q8 : qb 0 8 = q 0 2 := (Fa 0 8 (by omega)).trans (by rw [← hp1]; simp [aTurn, aRef, aPush, uq])
  have q9 : ∀ r, qb 9 r = if r = q 0 4 then 10 else q 9 r := fun r => (Fa 9 r (by omega)).trans (by rw [← hp1]; simp [aTurn, aRef, aPush, uq])
  have q10 : ∀ r, qb 10 r = if r = q 0 4 then q 0 6 else q 10 r := fun r => (Fa 10 r (by omega)).trans (by rw [← hp1]; simp [aTurn, aRef, aPush, uq])
  have q11 : ∀ r, qb 11 r = if r = q 0 4 then q 0 6 else q 11 r := fun r => (Fa 11 r (by omega)).trans (by rw [← hp1]; simp [aTurn, aRef, aPush, uq])
  have p2 : qh 0 2 = qb 0 2 := P 0 2 (by omega) (by omega)
  have h6h : qh 0 6 = q 0 6 := Fh 0 6 (by omega)
  have e20 := R3.2.2.1.1.2.2
  have lb := w3.1.1.2.2.2.1
  have tb3 := T3.2.2.2.2.2.1
  rw [p2] at e20
  rw [show m2.2.2 62 19 = some 75 by rw [R3.1.2.2]; exact hR.1.2.2.2.2.2.2.2.2.2, g_bs, e20, nI_p1 hp, show aB gSH 75 .int (nI (qb 0 2 - 1)) = true from g_inI (N := 101) (by omega) (by decide), g_ift, nI_clamp (by omega), g_nmb, R3.2.2.2.1.1.2.2, h6h]
  have R5 := e_impr R3 (v := nI (q 0 6)) (w := q 0 6 + 1) (nI_pred _).symm
  rw [p2] at R5
  have T5 : TKn b n (gsI m2 75 (qb 0 2 - 1) (nI (q 0 6))) j' := T3.x (by omega)
  generalize gsI m2 75 (qb 0 2 - 1) (nI (q 0 6)) = m5 at R5 T5
  have tf : topF qb = 10 := by simp [topF, q4, q9]
  refine x_is hb T5 (c := 59) (by decide) (fun hsem => ?_) (fun hsem => ?_)
  rotate_left
  · rw [if_pos rfl]
    refine x_od R5 T5 (fun m' hf => out_hit (c := 2) (qx := qb) g t3 ?_ (by decide) hf)
    rw [aT_beh (Or.inl s11) (fun _ => hc)]
    simp [aBeh, tf, hsem]
  rw [if_neg one0]
  have e3 : aT j' (kK b n j') qb = (0, aPop (aImp qb) 0) := by
    rw [aT_beh (Or.inl s11) (fun _ => hc)]
    simp [aBeh, tf, hsem]
  have to : topO (aImp qb) = q 0 6 := by simp [topO, aImp, q4, q10]
  generalize hqz : aPop (aImp qb) 0 = qz
  rw [hqz] at e3
  have z3 : qz 0 3 = q 0 3 + 1 := by rw [← hqz]; simp [aPop, aTurn, uq, aImp, q3]
  have z2 : qz 0 2 = qb 0 2 := by rw [← hqz]; simp [aPop, aTurn, uq, aImp]
  have z4 : qz 0 4 = q 0 4 := by rw [← hqz]; simp [aPop, aTurn, uq, aImp, q4]
  have z5 : qz 0 5 = q 0 5 := by rw [← hqz]; simp [aPop, aTurn, uq, aImp, q5]
  have z6 : qz 0 6 = q 0 6 := by rw [← hqz]; simp [aPop, aTurn, uq, to]
  have z7 : qz 0 7 = 0 := by rw [← hqz]; simp [aPop, aTurn, uq]
  have z9 : ∀ r, r < q 0 4 → qz 9 r = q 9 r := by intro r hr; rw [← hqz]; simp [aPop, aTurn, uq, aImp, q9]; omega
  have z10 : ∀ r, r < q 0 4 → qz 10 r = q 10 r := by intro r hr; rw [← hqz]; simp [aPop, aTurn, uq, aImp, q10]; omega
  have z11 : ∀ r, r < q 0 4 → qz 11 r = q 11 r := by intro r hr; rw [← hqz]; simp [aPop, aTurn, uq, aImp, q11]; omega
  have R8 : RM b n m0 m5 qz (nI (q 0 3 + 1)) 0 x51 := by
    obtain ⟨k, h7, hP, hFr, hx⟩ := R5
    refine ⟨k, h7, hP.eq (fun c r h1 h2 => ?_), ?_, hx⟩
    · have ea := P c r h1 h2
      rw [← hqz]
      simp only [uq, ea]
      have hh : ∀ a, (c = 0 ∧ r = a) → a ≤ 2 := fun a h => by have := h2 h.1; omega
      have h3 : ¬ (c = 0 ∧ r = 3) := by omega
      have h4 : ¬ (c = 0 ∧ r = 4) := by omega
      have h6 : ¬ (c = 0 ∧ r = 6) := by omega
      have h7 : ¬ (c = 0 ∧ r = 7) := by omega
      have c12 : ¬ c = 12 := by omega
      have c13 : ¬ c = 13 := by omega
      have c14 : ¬ c = 14 := by omega
      have c15 : ¬ c = 15 := by omega
      simp [aPop, aTurn, uq, aImp, h3, h4, h6, h7, c12, c13, c14, c15, q6]
    · obtain ⟨⟨a1, a2, a3⟩, b1⟩ := hFr
      have y4 := Fh 0 4 (by omega)
      have y5 := Fh 0 5 (by omega)
      have y6 := Fh 0 6 (by omega)
      simp [uq] at a1 a2 a3 b1
      refine ⟨⟨by rw [a1, y4, z4], by rw [a2, y5, z5], by rw [a3, y6, z6]⟩, fun r hr => ?_⟩
      rw [z4] at hr
      have := b1 r (by omega)
      rw [Fh 9 r (by omega), Fh 10 r (by omega), Fh 11 r (by omega)] at this
      rw [z9 r hr, z10 r hr, z11 r hr]
      exact this
  refine (fin_next hM hW hF (by rw [z3]; exact R8) T5 (by omega) (g.trans (.step rfl e3 t3 (by omega))) (by omega) (aW_go w3 e3) ⟨Or.inl ⟨z7, ?_⟩, bd_cong bd.2 z4 z6 z9 z10⟩ (fun _ => rfl) (fun h => by omega) (fun h => by omega) (fun h => by omega)).tl (fun r m h => h.z)
  rw [z4]
  intro hd
  rw [z9 _ (by omega)]
  rcases bd.1 with h | h
  · exact h.2 hd
  · omega
end REF
