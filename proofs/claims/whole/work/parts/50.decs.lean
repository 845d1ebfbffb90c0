/-! THE REFERENCE'S READER: the other declarations -/
section REF
variable {b : Nat → Nat} {n F : Nat} {m0 m : gM} {q qa : Nat → Nat → Nat} {x21 x50 x51 : Int32} {i j : Nat}
theorem nI_p1 {x : Nat} (h : 0 < x) : nI x - 1 = nI (x - 1) := pk_sub (b := 1) h
/-- def NAME = -/
theorem c_def (hM : MadeR m0 b n) (hW : WdR m0) (hR : RPt m0) (hF : 5000 ≤ F) (h : RB b n m0 m i q) (hst : q 0 7 = 0) (hk : kK b n i = 258) : eWp (f_X8_dec gSH F 62 m) (eOut b n m0 i q) := by
  have hb : ∀ i, i < n → b i < 256 := fun i hi => (hM.2.2.2 i hi).1
  obtain ⟨x50, x51, R, T, w, bd, h50, -, -, -⟩ := h
  have e1 : aT i 258 q = (0, aTurn q 3) := by simp [aT, aDec, hst]
  have g1 : aGo (kK b n) i q (i + 1) (aTurn q 3) := .step hk e1 (by decide) (by decide)
  have w1 := aW_go w e1
  have s7 : (aTurn q 3) 0 7 = 3 := by simp [aTurn, uq]
  have hS := w.1
  have l1 := hS.1.2.2.1
  have l5 := hS.1.2.2.2.2.2.2
  have hdp := (aZs_d w.2.1 l5 l1).1
  unfold f_X8_dec
  rw [ob_62, g_ift, if_neg (show ¬ m.1 62 38 = 10 from fun e => by have := (tk_w hb T (w := 10) (by omega) (by omega)).mp e; omega), if_neg (show ¬ m.1 62 38 = 11 from fun e => by have := (tk_w hb T (w := 11) (by omega) (by omega)).mp e; omega), if_pos (show m.1 62 38 = 12 from (tk_w hb T (w := 12) (by omega) (by omega)).mpr hk)]
  refine x_nx hM hW hF R T (by omega) (fun m' hbad hf => out_bad g1 hbad hf) (fun m1 R1 T1 => ?_)
  have t1 := T1.2.2.2.2.2.2
  by_cases hn : kK b n (i + 1) = 264
  rotate_left
  · rw [if_neg (fun e => hn ((tk_1 hb T1).mp e))]
    exact x_od R1 T1 (fun m' hf => out_hit g1 t1 (show aT (i + 1) (kK b n (i + 1)) (aTurn q 3) = (2, aTurn q 3) by simp [aT, s7, hn]) (by decide) hf)
  rw [if_pos ((tk_1 hb T1).mpr hn)]
  generalize hp1 : aPush (aTurn q 3) 11 (q 0 6) = p1
  have f1 : p1 0 1 = q 0 1 := by rw [← hp1]; simp [aPush, aTurn, uq]
  have f6 : (aTurn q 3) 0 6 = q 0 6 := by simp [aTurn, uq]
  have eN : aT (i + 1) (kK b n (i + 1)) (aTurn q 3) = aDeclIn (i + 1) p1 (q 0 6) 7 := by rw [← hp1]; simp [aT, aName, s7, hn, f6]
  refine x_dc hR R1 T1 hn l1 R1.2.2.2.1.1.2.2 (has := 0) (by decide) (fun hd m' hf => ?_) (fun hd m2 R2 T2 => ?_)
  · exact out_hit (c := 4) (qx := p1) g1 t1 (by rw [eN]; unfold aDeclIn; rw [f1, if_pos hd]) (by decide) hf
  generalize hq2 : aTurn (aDecl p1 (q 0 6) (i + 1) 0) 7 = q2
  have e2 : aT (i + 1) (kK b n (i + 1)) (aTurn q 3) = (0, q2) := by
    rw [eN]
    unfold aDeclIn
    rw [f1, if_neg hd, hq2]
  have g2 : aGo (kK b n) i q (i + 1 + 1) q2 := g1.trans (.step rfl e2 t1 (by omega))
  have w2 := aW_go w1 e2
  have s8 : q2 0 7 = 7 := by rw [← hq2]; simp [aTurn, uq]
  refine x_nx hM hW hF R2 T2 (by omega) (fun m' hbad hf => out_bad g2 hbad hf) (fun m4 R4 T4 => ?_)
  have t4 := T4.2.2.2.2.2.2
  refine x_is hb T4 (c := 61) (by decide) (fun hc => ?_) (fun hc => ?_)
  rotate_left
  · rw [if_pos rfl]
    exact x_od R4 T4 (fun m' hf => out_hit g2 t4 (show aT (i + 1 + 1) (kK b n (i + 1 + 1)) q2 = (2, q2) by simp [aT, s8, hc]) (by decide) hf)
  rw [if_neg one0]
  refine x_op hR R4 T4 (by simp [aDecl, uq]; omega) 11 (q 0 6) rfl rfl (fun m6 R6 T6 => ?_)
  rw [g_nmb]
  have e3 : aT (i + 1 + 1) (kK b n (i + 1 + 1)) q2 = (0, aTurn q2 10) := by simp [aT, s8, hc]
  have z3 : (aTurn q2 10) 0 3 = q 0 3 := by rw [← hq2, ← hp1]; simp [aTurn, uq, aPush, aDecl]
  have z2 : (aTurn q2 10) 0 2 = q 0 2 := by rw [← hq2, ← hp1]; simp [aTurn, uq, aPush, aDecl]
  have z4 : (aTurn q2 10) 0 4 = q 0 4 + 1 := by rw [← hq2, ← hp1]; simp [aTurn, uq, aPush, aDecl]
  have z7 : (aTurn q2 10) 0 7 = 10 := by simp [aTurn, uq]
  have z9 : ∀ j, (aTurn q2 10) 9 j = if j = q 0 4 then 11 else q 9 j := by rw [← hq2, ← hp1]; intro j; simp [aTurn, uq, aPush, aDecl]
  have z10 : ∀ j, (aTurn q2 10) 10 j = if j = q 0 4 then q 0 6 else q 10 j := by rw [← hq2, ← hp1]; intro j; simp [aTurn, uq, aPush, aDecl]
  have R8 := ((R6.x 0).2.2).e2 (q' := aTurn q2 10) (by rw [← hq2, ← hp1]; simp [aTurn, uq, aPush, aDecl]) (fun r => by
    rw [← hq2, ← hp1]
    simp [aTurn, uq, aPush, aDecl])
  refine (fin_next hM hW hF (by rw [z3]; exact R8) (T6.x (by omega)) (by omega) (g2.trans (.step rfl e3 t4 (by omega))) (by omega) (aW_go w2 e3) ⟨?_, ?_, ?_⟩ (by rw [z2]; exact h50) (fun h => rfl) (fun h => by omega) (fun h => by omega)).tl (fun r m h => h.z)
  · rw [z7, z4, z9]
    exact Or.inr ⟨Or.inl rfl, by omega, Or.inl (if_pos (by omega))⟩
  · rw [z4]
    have hs0 : 0 < q 0 4 → q 9 (q 0 4 - 1) = 1 := by
      rcases bd.1 with h | h
      · exact h.2
      · omega
    refine bd.2.1.push (fun j hj => by rw [z9, if_neg (by omega)]) (Or.inl ⟨Or.inr (by rw [z9, if_pos rfl]), hs0⟩)
  · rw [z4]
    refine bd.2.2.push (fun j hj => by rw [z9, if_neg (by omega)]) (fun j hj => by rw [z10, if_neg (by omega)]) (by rw [z10, if_pos rfl]) (fun h => ?_)
    rw [z10, if_pos rfl, ← hq2, ← hp1]
    simp [aTurn, uq, aPush, aDecl]
/-- the end of a module, and what is no declaration -/
theorem c_shut (hM : MadeR m0 b n) (hW : WdR m0) (hR : RPt m0) (hF : 5000 ≤ F) (h : RB b n m0 m i q) (hst : q 0 7 = 0) (h6 : kK b n i ≠ 256) (h7 : kK b n i ≠ 257) (h8 : kK b n i ≠ 258) (hE : kK b n i = 266 → 0 < q 0 4) : eWp (f_X8_dec gSH F 62 m) (eOut b n m0 i q) := by
  have hb : ∀ i, i < n → b i < 256 := fun i hi => (hM.2.2.2 i hi).1
  obtain ⟨x50, x51, R, T, w, bd, h50, -, -, -⟩ := h
  have t0 := T.2.2.2.2.2.2
  have hS := w.1
  have l1 := hS.1.2.2.1
  have l5 := hS.1.2.2.2.2.2.2
  have hdp := aZs_d w.2.1 l5 l1
  have hs0 : 0 < q 0 4 → q 9 (q 0 4 - 1) = 1 := by
    rcases bd.1 with h | h
    · exact h.2
    · omega
  have oddO : ∀ {m : gM}, RM b n m0 m q (nI (q 0 3)) x50 x51 → TKn b n m i → ¬ (kK b n i = 125 ∧ 0 < q 0 4) → eWp (b_X8_dec_363 gSH F 62 m) (eOut b n m0 i q) := by
    intro m R T hno
    unfold b_X8_dec_363
    rw [ob_62, g_ift]
    refine x_od R T (fun m' hf => out_hit (c := 2) (qx := q) .refl t0 ?_ (by decide) hf)
    by_cases c1 : kK b n i = 125
    · have d0 : ¬ 0 < q 0 4 := fun h => hno ⟨c1, h⟩
      simp [aT, aDec, hst, c1, topF, d0]
    · by_cases c2 : kK b n i = 266
      · have := hE c2
        have d1 : ¬ q 0 4 = 0 := by omega
        simp [aT, aDec, hst, c2, d1]
      · simp [aT, aDec, hst, c1, c2, h6, h7, h8]
  unfold f_X8_dec
  rw [ob_62, g_ift, if_neg (show ¬ m.1 62 38 = 10 from fun e => by have := (tk_w hb T (w := 10) (by omega) (by omega)).mp e; omega), if_neg (show ¬ m.1 62 38 = 11 from fun e => by have := (tk_w hb T (w := 11) (by omega) (by omega)).mp e; omega), if_neg (show ¬ m.1 62 38 = 12 from fun e => by have := (tk_w hb T (w := 12) (by omega) (by omega)).mp e; omega)]
  refine x_is hb T (c := 125) (by decide) (fun hc => ?_) (fun hc => ?_)
  rotate_left
  · rw [if_pos rfl]
    exact oddO R T (fun h => hc h.1)
  rw [if_neg one0, R.2.2.2.1.1.1]
  by_cases hd : 0 < q 0 4
  rotate_left
  · rw [if_pos (show nI (q 0 4) ≤ 0 by rw [show q 0 4 = 0 by omega]; decide)]
    exact oddO R T (fun h => hd h.2)
  rw [if_neg (show ¬ nI (q 0 4) ≤ 0 from nI_ge (a := 0) hd (by omega)), g_nmb, nI_p1 hd, show (gsI m 62 47 (nI (q 0 4 - 1))).1 62 48 = nI (q 0 5) - 100 from R.2.2.2.1.1.2.1, g_nmb]
  have R1 := e_shut R hd
  have R2 := e_unbr (q := uq q 0 4 (q 0 4 - 1)) R1 (by have := hdp.2 hd; simp [uq]; omega)
  rw [show (uq q 0 4 (q 0 4 - 1)) 0 5 = q 0 5 by simp [uq]] at R2
  generalize hm2 : gsI (gsI m 62 47 (nI (q 0 4 - 1))) 62 48 (nI (q 0 5) - 100 - 1) = m2
  rw [hm2] at R2
  have T2 : TKn b n m2 i := by rw [← hm2]; exact (T.x (by omega)).x (by omega)
  have e44 : m2.2.2 62 44 = some 89 := by rw [R2.1.2.2]; exact hR.2.2.1
  have e47 : m2.1 62 47 = nI (q 0 4 - 1) := by
    have := R2.2.2.2.1.1.1
    simpa [uq] using this
  have e89 : m2.1 89 (q 0 4 - 1) = nI (q 10 (q 0 4 - 1)) := by
    rw [← hm2]
    have := (R.2.2.2.1.2 (q 0 4 - 1) (by omega)).2.1
    simpa [gI_1] using this
  rw [e44, g_bs, e47, show aB gSH 89 .int (nI (q 0 4 - 1)) = true from g_inI (N := 300) (by omega) (by decide), g_ift, nI_clamp (by omega), e89, g_nmb]
  have R3 := e_here R2 (v := nI (q 10 (q 0 4 - 1))) rfl
  have tf : topF q = 1 := by simp [topF, hd, hs0 hd]
  have to : topO q = q 10 (q 0 4 - 1) := by simp [topO, hd]
  have e3 : aT i (kK b n i) q = (0, aClose q 0) := by simp [aT, aDec, hst, hc, tf]
  have z3 : (aClose q 0) 0 3 = q 0 3 := by simp [aClose, aPop, aTurn, uq]
  have z2 : (aClose q 0) 0 2 = q 0 2 := by simp [aClose, aPop, aTurn, uq]
  have z4 : (aClose q 0) 0 4 = q 0 4 - 1 := by simp [aClose, aPop, aTurn, uq]
  have z7 : (aClose q 0) 0 7 = 0 := by simp [aClose, aPop, aTurn, uq]
  have z9 : ∀ j, (aClose q 0) 9 j = q 9 j := by intro j; simp [aClose, aPop, aTurn, uq]
  have tu : topO (uq q 0 5 (q 0 5 - 1)) = q 10 (q 0 4 - 1) := by simp [topO, uq, hd]
  have R8 := R3.e2 (q' := aClose q 0) (by simp [aClose, aPop, aTurn, uq, tu]) (fun r => by simp [aClose, aPop, aTurn, uq])
  refine (fin_next hM hW hF (by rw [z3]; exact R8) (T2.x (by omega)) (by omega) (.step rfl e3 t0 (by omega)) (by omega) (aW_go w e3) ⟨?_, ?_, ?_⟩ (by rw [z2]; exact h50) (fun h => by omega) (fun h => by omega) (fun h => by omega)).tl (fun r m h => h.z)
  · rw [z7, z4, z9]
    exact Or.inl ⟨rfl, (bd.2.1.under hd).1 (Or.inl (hs0 hd))⟩
  · rw [z4]
    exact bd.2.1.pop.cong (fun j _ => z9 j)
  · rw [z4]
    refine bd.2.2.pop hd (fun j _ => z9 j) (fun j _ => by simp [aClose, aPop, aTurn, uq]) ?_
    rw [← tu]
    simp [aClose, aPop, aTurn, uq]
end REF
