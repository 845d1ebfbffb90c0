/-! THE REFERENCE'S READER: ends, and the whole reading -/
section REF
variable {b : Nat → Nat} {n F : Nat} {m0 m : gM} {q qa qh : Nat → Nat → Nat} {x21 x50 x51 : Int32} {i j : Nat}
/-- ) and } of an expression -/
theorem e_close (hM : MadeR m0 b n) (hW : WdR m0) (hR : RPt m0) (hF : 5000 ≤ F) (R : RM b n m0 m q (nI (q 0 3)) x50 x51) (T : TKn b n m i) (w : aW q) (bd : shp (q 0 4) (q 9) ∧ dSc (q 0 4) (q 0 6) (q 9) (q 10)) (dp : 0 < q 0 4) (tf : isE (q 9 (q 0 4 - 1))) (h50 : 0 < q 0 2 → x50 = 0) {c : Nat} (hc : c < 256) (hno : kK b n i ≠ c → aT i (kK b n i) q = (2, q)) (hyes : kK b n i = c → aT i (kK b n i) q = (0, aClose q 12)) : eWp (b_X8_ends_87 gSH F 62 (nI (q 0 4 - 1)) (nI c) 62 m) (eOut b n m0 i q) := by
  have hb : ∀ i, i < n → b i < 256 := fun i hi => (hM.2.2.2 i hi).1
  have t0 := T.2.2.2.2.2.2
  have hS := w.1
  have l1 := hS.1.2.2.1
  have l5 := hS.1.2.2.2.2.2.2
  have hdp := aZs_d w.2.1 l5 l1
  unfold b_X8_ends_87
  rw [ob_62, g_ift]
  refine x_is hb T hc (fun hk => ?_) (fun hk => ?_)
  rotate_left
  · rw [if_pos rfl, g_ift]
    exact x_od R T (fun m' hf => out_hit .refl t0 (hno hk) (by decide) hf)
  have e3 := hyes hk
  rw [if_neg one0, g_ift, R.2.2.2.1.1.1, nI_p1 dp, g_nmb, show (gsI m 62 47 (nI (q 0 4 - 1))).1 62 48 = nI (q 0 5) - 100 from R.2.2.2.1.1.2.1, g_nmb]
  have R1 := e_shut R dp
  have R2 := e_unbr (q := uq q 0 4 (q 0 4 - 1)) R1 (by have := hdp.2 dp; simp [uq]; omega)
  rw [show (uq q 0 4 (q 0 4 - 1)) 0 5 = q 0 5 by simp [uq]] at R2
  generalize hm2 : gsI (gsI m 62 47 (nI (q 0 4 - 1))) 62 48 (nI (q 0 5) - 100 - 1) = m2
  rw [hm2] at R2
  have T2 : TKn b n m2 i := by rw [← hm2]; exact (T.x (by omega)).x (by omega)
  have e89 : m2.1 89 (q 0 4 - 1) = nI (q 10 (q 0 4 - 1)) := by
    rw [← hm2]
    have := (R.2.2.2.1.2 (q 0 4 - 1) (by omega)).2.1
    simpa [gI_1] using this
  rw [show m2.2.2 62 44 = some 89 by rw [R2.1.2.2]; exact hR.2.2.1, g_bs, show aB gSH 89 .int (nI (q 0 4 - 1)) = true from g_inI (N := 300) (by omega) (by decide), g_ift, nI_clamp (by omega), e89, g_nmb, g_nmb]
  have R3 := ((e_here R2 (v := nI (q 10 (q 0 4 - 1))) rfl).x 1).2.2
  have z3 : (aClose q 12) 0 3 = q 0 3 := by simp [aClose, aPop, aTurn, uq]
  have z4 : (aClose q 12) 0 4 = q 0 4 - 1 := by simp [aClose, aPop, aTurn, uq]
  have z7 : (aClose q 12) 0 7 = 12 := by simp [aClose, aPop, aTurn, uq]
  have z9 : ∀ j, (aClose q 12) 9 j = q 9 j := by intro j; simp [aClose, aPop, aTurn, uq]
  have tu : topO (uq q 0 5 (q 0 5 - 1)) = q 10 (q 0 4 - 1) := by simp [topO, uq, dp]
  have R8 := R3.e2 (q' := aClose q 12) (by simp [aClose, aPop, aTurn, uq, tu]) (fun r => by simp [aClose, aPop, aTurn, uq])
  have un := (bd.1.under dp).2 tf
  have n4 := hM.2.2.1
  have tb := T.2.2.2.2.2.1
  refine (fin_next hM hW hF (by rw [z3]; exact R8) ((T2.x (by omega)).x (by omega)) (by omega) (.step rfl e3 t0 (by omega)) (by omega) (aW_go w e3) ⟨Or.inr ⟨by omega, by omega, ?_⟩, ?_, ?_⟩ (by simpa [aClose, aPop, aTurn, uq] using h50) (fun h => by omega) (fun h => ⟨1, rfl, by omega, by omega⟩) (fun h => by omega)).tl (fun r m h => h.z)
  · rw [z4, z9]
    exact un.2
  · rw [z4]
    exact bd.1.pop.cong (fun j _ => z9 j)
  · rw [z4]
    refine bd.2.pop dp (fun j _ => z9 j) (fun j _ => by simp [aClose, aPop, aTurn, uq]) ?_
    rw [← tu]
    simp [aClose, aPop, aTurn, uq]
/-- behind an atom -/
theorem e_ends (hM : MadeR m0 b n) (hW : WdR m0) (hR : RPt m0) (hF : 5000 ≤ F) (R : RM b n m0 m q (nI (q 0 3)) x50 x51) (T : TKn b n m i) (w : aW q) (bd : aBd q) (hs : q 0 7 = 11 ∨ q 0 7 = 12) (h46 : q 0 7 = 11 → kK b n i ≠ 46) (h50 : 0 < q 0 2 → x50 = 0) (no : aAtom i (kK b n i) q = (2, q)) (h43 : kK b n i ≠ 43) : eWp (f_X8_ends gSH F 62 m) (eOut b n m0 i q) := by
  have hb : ∀ i, i < n → b i < 256 := fun i hi => (hM.2.2.2 i hi).1
  obtain ⟨s, dp, tf, te⟩ := bd_x bd (by omega)
  have t0 := T.2.2.2.2.2.2
  have hS := w.1
  have l1 := hS.1.2.2.1
  have l5 := hS.1.2.2.2.2.2.2
  have hdp := (aZs_d w.2.1 l5 l1).1
  have eB := aT_beh (i := i) (k := kK b n i) hs h46
  obtain ⟨r88, r89, r9x⟩ := R.2.2.2.1.2 (q 0 4 - 1) (by omega)
  have ib : ∀ {c : Nat}, (∀ x, aB gSH c .int x = inB x 300) → aB gSH c .int (nI (q 0 4 - 1)) = true := fun h => by rw [h]; exact g_inI (by omega) (by decide)
  have fl : ∀ v : Nat, v < 300 → (nI (fk (q 9 (q 0 4 - 1))) = nI v ↔ fk (q 9 (q 0 4 - 1)) = v) := fun v hv => k_lit (by unfold fk; (repeat' split); all_goals omega) hv
  have z88 : m.2.2 62 43 = some 88 := by rw [R.1.2.2]; exact hR.2.1
  unfold f_X8_ends
  rw [ob_62, g_ift, R.2.2.2.1.1.1, nI_p1 dp, g_nmb, z88, g_bs, ib (fun x => rfl), g_ift, nI_clamp (by omega), r88]
  by_cases h11 : topF q = 11
  · have e11 : q 9 (q 0 4 - 1) = 11 := by rw [← te]; exact h11
    rw [if_pos (show nI (fk (q 9 (q 0 4 - 1))) = 1 by rw [e11]; rfl)]
    refine x_is hb T (c := 59) (by decide) (fun hk => ?_) (fun hk => ?_)
    rotate_left
    · rw [if_pos rfl]
      refine x_od R T (fun m' hf => out_hit (c := 2) (qx := q) .refl t0 ?_ (by decide) hf)
      rw [eB]
      simp [aBeh, h11, hk, h43, no, hasB]
    rw [if_neg one0, R.2.2.2.1.1.1, nI_p1 dp, g_nmb]
    have e3 : aT i (kK b n i) q = (0, aPop q 0) := by
      rw [eB, hk]
      simp [aBeh, h11]
    have here := (bd.2.2 (q 0 4 - 1) (by omega) e11).1 (by omega)
    have to : topO q = q 10 (q 0 4 - 1) := by simp [topO, dp]
    have z4 : (aPop q 0) 0 4 = q 0 4 - 1 := by simp [aPop, aTurn, uq]
    have z7 : (aPop q 0) 0 7 = 0 := by simp [aPop, aTurn, uq]
    have z9 : ∀ j, (aPop q 0) 9 j = q 9 j := by intro j; simp [aPop, aTurn, uq]
    have R8 := (e_shut R dp).e2 (q' := aPop q 0) (by simp [aPop, aTurn, uq, to, here]) (fun r => by simp [aPop, aTurn, uq])
    refine (fin_next hM hW hF (by rw [show (aPop q 0) 0 3 = q 0 3 by simp [aPop, aTurn, uq]]; exact R8) (T.x (by omega)) (by omega) (.step rfl e3 t0 (by omega)) (by omega) (aW_go w e3) ⟨Or.inl ⟨z7, ?_⟩, ?_, ?_⟩ (by simpa [aPop, aTurn, uq] using h50) (fun h => by omega) (fun h => by omega) (fun h => by omega)).tl (fun r m h => h.z)
    · rw [z4, z9]
      exact (bd.2.1.under dp).1 (Or.inr e11)
    · rw [z4]
      exact bd.2.1.pop.cong (fun j _ => z9 j)
    · rw [z4]
      exact bd.2.2.pop dp (fun j _ => z9 j) (fun j _ => by simp [aPop, aTurn, uq]) (by simp [aPop, aTurn, uq, to])
  have hE : isE (topF q) := by
    rcases tf with h | h
    · exact absurd h h11
    · exact h
  have hE' : isE (q 9 (q 0 4 - 1)) := by rw [← te]; exact hE
  have ne11 : q 9 (q 0 4 - 1) ≠ 11 := by rw [← te]; exact h11
  have ne1 : ¬ nI (fk (q 9 (q 0 4 - 1))) = 1 := fun e => by
    have := (fl 1 (by decide)).mp e
    unfold isE at hE'
    unfold fk at this
    repeat' split at this
    all_goals omega
  rw [if_neg ne1]
  by_cases h12 : topF q = 12
  · have e12 : q 9 (q 0 4 - 1) = 12 := by rw [← te]; exact h12
    have e2 : nI (fk (q 9 (q 0 4 - 1))) = 2 := by rw [e12]; rfl
    rw [if_pos e2]
    unfold b_X8_ends_69
    rw [ob_62, g_ift, z88, g_bs, ib (fun x => rfl), g_ift, nI_clamp (by omega), r88, if_pos e2]
    exact e_close hM hW hR hF R T w bd.2 dp hE' h50 (c := 41) (by decide) (fun hk => by
      rw [eB]
      simp [aBeh, h12, hk, h43, no, hasB]) (fun hk => by
      rw [eB, hk]
      simp [aBeh, h12])
  have ne2 : ¬ nI (fk (q 9 (q 0 4 - 1))) = 2 := fun e => by
    have := (fl 2 (by decide)).mp e
    rw [te] at h12
    unfold isE at hE'
    unfold fk at this
    repeat' split at this
    all_goals omega
  rw [if_neg ne2]
  by_cases h3 : topF q = 2 ∨ topF q = 13
  · have e3 : nI (fk (q 9 (q 0 4 - 1))) = 3 := by
      rw [te] at h3
      rcases h3 with h | h <;> rw [h] <;> rfl
    rw [if_pos e3]
    unfold b_X8_ends_69
    rw [ob_62, g_ift, z88, g_bs, ib (fun x => rfl), g_ift, nI_clamp (by omega), r88, if_neg ne2]
    exact e_close hM hW hR hF R T w bd.2 dp hE' h50 (c := 125) (by decide) (fun hk => by
      rw [eB]
      rcases h3 with h | h <;> simp [aBeh, h, hk, h43, no, hasB]) (fun hk => by
      rw [eB, hk]
      rcases h3 with h | h <;> simp [aBeh, h])
  have ne3 : ¬ nI (fk (q 9 (q 0 4 - 1))) = 3 := fun e => by
    have := (fl 3 (by decide)).mp e
    rw [te] at h3
    unfold isE at hE'
    unfold fk at this
    repeat' split at this
    all_goals omega
  have hB3 : topF q = 3 ∨ topF q = 4 ∨ topF q = 5 := by unfold isE at hE; omega
  have hB : hasB (topF q) = true := by rcases hB3 with h | h | h <;> rw [h] <;> rfl
  have t10 : topF q ≠ 10 := by omega
  have t2 : topF q ≠ 2 := by omega
  have t13 : topF q ≠ 13 := by omega
  obtain ⟨r90, r91⟩ := r9x (by rw [← te]; exact hB)
  rw [if_neg ne3]
  refine x_is hb T (c := 44) (by decide) (fun hk => ?_) (fun hk => ?_)
  · rw [if_neg one0]
    have e1 : aT i (kK b n i) q = (0, aTurn q 5) := by
      rw [eB, hk]
      simp [aBeh, t10, hB]
    have g1 : aGo (kK b n) i q (i + 1) (aTurn q 5) := .step rfl e1 t0 (by omega)
    refine x_nx hM hW hF R T (by omega) (fun m' hbad hf => out_bad g1 hbad hf) (fun m4 R4 T4 => ?_)
    have R5 := R4.e2 (q' := aTurn q 5) (by simp [aTurn, uq]) (fun r => by simp [aTurn, uq])
    refine (e_bind hM hW hR hF (by rw [show (aTurn q 5) 0 3 = q 0 3 by simp [aTurn, uq]]; exact R5) T4 g1 (by omega) (aW_go w e1) (by simp [aTurn, uq]) (by simpa [aTurn, uq] using dp) (by rw [te] at hB3; simpa [aTurn, uq] using hB3) (bd_cong bd.2 (by simp [aTurn, uq]) (by simp [aTurn, uq]) (fun j _ => by simp [aTurn, uq]) (fun j _ => by simp [aTurn, uq])) (by simpa [aTurn, uq] using h50)).tt (fun r m h => h.z)
  rw [if_pos rfl]
  by_cases hin : kK b n i = 263
  rotate_left
  · rw [if_neg (show ¬ m.1 62 38 = 17 from fun e => hin ((tk_w hb T (w := 17) (by omega) (by omega)).mp e))]
    refine x_od R T (fun m' hf => out_hit (c := 2) (qx := q) .refl t0 ?_ (by decide) hf)
    rw [eB]
    simp [aBeh, t10, h11, h12, t2, t13, hk, h43, hin, no]
  rw [if_pos (show m.1 62 38 = 17 from (tk_w hb T (w := 17) (by omega) (by omega)).mpr hin), show m.2.2 62 44 = some 89 by rw [R.1.2.2]; exact hR.2.2.1, g_bs, ib (fun x => rfl), g_ift, r89, g_nmb, show (gsI m 62 49 (nI (q 10 (q 0 4 - 1)))).1 62 47 = nI (q 0 4) from R.2.2.2.1.1.1, nI_p1 dp, g_nmb]
  have e1 : aT i (kK b n i) q = (0, aIn q) := by
    rw [eB, hin]
    simp [aBeh, t10, hB]
  have g1 : aGo (kK b n) i q (i + 1) (aIn q) := .step rfl e1 t0 (by omega)
  have w1 := aW_go w e1
  have R1 := e_shut (e_here R (v := nI (q 10 (q 0 4 - 1))) rfl) (by simpa [uq] using dp)
  rw [show (uq q 0 6 (q 10 (q 0 4 - 1))) 0 4 = q 0 4 by simp [uq]] at R1
  have T1 : TKn b n (gsI (gsI m 62 49 (nI (q 10 (q 0 4 - 1)))) 62 47 (nI (q 0 4 - 1))) i := (T.x (by omega)).x (by omega)
  have k91 : (gsI (gsI m 62 49 (nI (q 10 (q 0 4 - 1)))) 62 47 (nI (q 0 4 - 1))).1 91 (q 0 4 - 1) = nI (q 11 (q 0 4 - 1)) := r91
  generalize gsI (gsI m 62 49 (nI (q 10 (q 0 4 - 1)))) 62 47 (nI (q 0 4 - 1)) = m1 at R1 T1 k91
  refine (e_next2 hM hW hF R1 T1 (by omega)).bn ?_
  rintro r m2 (⟨rfl, hbad, hf⟩ | ⟨rfl, R2, T2, kk⟩)
  · rw [if_pos rfl]
    exact .so (out_bad g1 hbad hf)
  rw [if_neg one0, show m2.2.2 62 46 = some 91 by rw [R2.1.2.2]; exact hR.2.2.2.2, g_bs, ib (fun x => rfl), g_ift, kk 91 (by decide), k91]
  have ti : topI q = q 11 (q 0 4 - 1) := by simp [topI, dp]
  generalize hq1 : aIn q = q1
  rw [hq1] at g1 w1
  have z3 : q1 0 3 = q 0 3 := by rw [← hq1]; simp [aIn, aTurn, aTop, uq]
  have z4 : q1 0 4 = q 0 4 := by rw [← hq1]; simp [aIn, aTurn, aTop, uq]
  have z6 : q1 0 6 = q 11 (q 0 4 - 1) := by rw [← hq1]; simp [aIn, aTurn, aTop, uq, ti]
  have z9 : ∀ r, q1 9 r = if r = q 0 4 - 1 then 13 else q 9 r := by intro r; rw [← hq1]; simp [aIn, aTurn, aTop, uq]
  have z10 : ∀ r, q1 10 r = q 10 r := by intro r; rw [← hq1]; simp [aIn, aTurn, aTop, uq]
  refine (e_body hM hW hR hF (fr := 13) (inn := q 11 (q 0 4 - 1)) rfl (by rw [z3]; exact R2) T2 g1 (by omega) w1 (by rw [← hq1]; simp [aIn, aTurn, uq]) (by rw [← hq1]; simp [aIn, aTurn, aTop, uq]) (by simp [uq]; omega) rfl rfl ?_ (fun r => ?_) ?_ (by rw [← hq1]; simpa [aIn, aTurn, aTop, uq] using h50)).tt (fun r m h => h.z)
  · rw [← hq1]
    simp [aIn, aTurn, aTop, uq, ti]
    omega
  · rw [← hq1]
    simp [aIn, aTurn, aTop, uq, ti]
    intro hr
    rw [hr]
  · rw [z4]
    refine ⟨?_, bd.2.2.here (fun j hj => by rw [z9, if_neg (by omega)]) (fun j _ => z10 j) (fun _ => by rw [z9, if_pos rfl]; omega)⟩
    have h1 := bd.2.1
    have un := (h1.under dp).2 hE'
    have hp := h1.pop.push (g := q1 9) (fun j hj => by rw [z9, if_neg (by omega)]) (Or.inr ⟨by rw [z9, if_pos rfl]; unfold isE; omega, un.1, un.2⟩)
    rw [show q 0 4 - 1 + 1 = q 0 4 by omega] at hp
    exact hp
/-- no atom: the end of something, or a fault -/
theorem c_rest (hM : MadeR m0 b n) (hW : WdR m0) (hR : RPt m0) (hF : 5000 ≤ F) (h : RB b n m0 m i q) (hst : q 0 7 ≠ 0) (a1 : kK b n i ≠ 40) (a2 : kK b n i ≠ 259) (a3 : kK b n i ≠ 260) (a4 : kK b n i ≠ 261) (a5 : kK b n i ≠ 262) (a6 : kK b n i ≠ 264) (a7 : kK b n i ≠ 265) : eWp (f_X8_exp gSH F 62 m) (eOut b n m0 i q) := by
  have hb : ∀ i, i < n → b i < 256 := fun i hi => (hM.2.2.2 i hi).1
  obtain ⟨x50, x51, R, T, w, bd, h50, h51, h12, h11⟩ := h
  obtain ⟨s, dp, tf, te⟩ := bd_x bd hst
  have t0 := T.2.2.2.2.2.2
  have no : aAtom i (kK b n i) q = (2, q) := aA_no a1 a2 a3 a4 a5 a6 a7
  have tw : ∀ (v : Nat), 13 ≤ v → v ≤ 16 → ¬ m.1 62 38 = nI v := fun v h1 h2 e => by
    have := (tk_w hb T (w := v) (by omega) (by omega)).mp e
    clear h12 h11
    omega
  have t10 : topF q ≠ 10 := by
    clear h12 h11
    unfold isE at tf
    omega
  unfold f_X8_exp
  rw [ob_62, g_ift, if_neg (fun e => a7 ((tk_2 hb T).mp e)), if_neg (fun e => a6 ((tk_1 hb T).mp e)), if_neg (show ¬ m.1 62 38 = 13 from tw 13 (by decide) (by decide)), if_neg (show ¬ m.1 62 38 = 14 from tw 14 (by decide) (by decide)), if_neg (show ¬ m.1 62 38 = 15 from tw 15 (by decide) (by decide)), if_neg (show ¬ m.1 62 38 = 16 from tw 16 (by decide) (by decide))]
  refine x_is hb T (c := 40) (by decide) (fun hc => absurd hc a1) (fun _ => ?_)
  rw [if_pos rfl, R.2.2.2.2.2.2]
  by_cases h10 : q 0 7 = 10
  · rw [if_pos (h51 h10)]
    exact x_od R T (fun m' hf => out_hit (c := 2) (qx := q) .refl t0 (by simp [aT, h10, no]) (by decide) hf)
  have s' : q 0 7 = 11 ∨ q 0 7 = 12 := by
    rcases s with h | h | h
    · exact absurd h h10
    · exact Or.inl h
    · exact Or.inr h
  obtain ⟨a, ha, ha1, ha2⟩ := h12 s'
  have n4 := hM.2.2.1
  have tb := T.2.2.2.2.2.1
  clear h12
  rw [ha, if_neg (nI_ne0 ha1 (by clear h11; omega))]
  refine x_is hb T (c := 43) (by decide) (fun hk => ?_) (fun hk => ?_)
  · rw [if_neg one0, g_nmb]
    have e3 : aT i (kK b n i) q = (0, aTurn q 10) := by
      rw [aT_beh s' h11, hk]
      simp [aBeh, t10]
    clear h11
    have z7 : (aTurn q 10) 0 7 = 10 := by simp [aTurn, uq]
    have R8 := ((R.x 0).2.2).e2 (q' := aTurn q 10) (by simp [aTurn, uq]) (fun r => by simp [aTurn, uq])
    refine (fin_next hM hW hF (by rw [show (aTurn q 10) 0 3 = q 0 3 by simp [aTurn, uq]]; exact R8) (T.x (by omega)) (by omega) (.step rfl e3 t0 (by omega)) (by omega) (aW_go w e3) ⟨Or.inr ⟨by omega, ?_, ?_⟩, bd_cong bd.2 (by simp [aTurn, uq]) (by simp [aTurn, uq]) (fun j _ => by simp [aTurn, uq]) (fun j _ => by simp [aTurn, uq])⟩ (by simpa [aTurn, uq] using h50) (fun _ => rfl) (fun h => by omega) (fun h => by omega)).tl (fun r m h => h.z)
    · simpa [aTurn, uq] using dp
    · rw [te] at tf
      simpa [aTurn, uq] using tf
  · rw [if_pos rfl]
    exact (e_ends hM hW hR hF R T w bd s' h11 h50 no hk).tl (fun r m h => h.z)
/-- one bracket of the loop -/
theorem c_dec (hM : MadeR m0 b n) (hW : WdR m0) (hR : RPt m0) (hF : 5000 ≤ F) (h : RB b n m0 m i q) (hst : q 0 7 = 0) (hE : kK b n i = 266 → 0 < q 0 4) : eWp (f_X8_dec gSH F 62 m) (eOut b n m0 i q) := by
  by_cases h6 : kK b n i = 256
  · exact c_mod hM hW hR hF h hst h6
  by_cases h7 : kK b n i = 257
  · exact c_imp hM hW hR hF h hst h7
  by_cases h8 : kK b n i = 258
  · exact c_def hM hW hR hF h hst h8
  exact c_shut hM hW hR hF h hst h6 h7 h8 hE
theorem c_exp (hM : MadeR m0 b n) (hW : WdR m0) (hR : RPt m0) (hF : 5000 ≤ F) (h : RB b n m0 m i q) (hst : q 0 7 ≠ 0) : eWp (f_X8_exp gSH F 62 m) (eOut b n m0 i q) := by
  by_cases a1 : kK b n i = 40
  · exact c_round hM hW hR hF h hst a1
  by_cases a2 : kK b n i = 259
  · exact c_fun hM hW hR hF h hst a2
  by_cases a3 : kK b n i = 260
  · exact c_binds hM hW hR hF h hst (Or.inl a3)
  by_cases a4 : kK b n i = 261
  · exact c_binds hM hW hR hF h hst (Or.inr (Or.inl a4))
  by_cases a5 : kK b n i = 262
  · exact c_binds hM hW hR hF h hst (Or.inr (Or.inr a5))
  by_cases a6 : kK b n i = 264
  · exact c_name hM hW hR hF h hst a6
  by_cases a7 : kK b n i = 265
  · exact c_num hM hW hF h hst a7
  exact c_rest hM hW hR hF h hst a1 a2 a3 a4 a5 a6 a7
theorem e_all (hM : MadeR m0 b n) (hW : WdR m0) (hR : RPt m0) (hF : 5000 ≤ F) : ∀ (k N i : Nat) (m : gM) (q : Nat → Nat → Nat), i + k = 4001 → k < N → RB b n m0 m i q → aGo (kK b n) 0 aQ0 i q → eWp (l_X8_readAll_64 gSH F N 62 1 m) (fun r m' => (r = 1 ∧ ∃ i' q', (∀ k, aRun (kK b n) (k + i' + 1) 0 aQ0 = (0, i', q')) ∧ RB b n m0 m' i' q') ∨ (r = 0 ∧ ∃ c i', c ≠ 0 ∧ c < 2 ^ 31 ∧ aEnd (kK b n) 0 aQ0 c i' ∧ FLt b n m0 m' c i')) := by
  have hb : ∀ i, i < n → b i < 256 := fun i hi => (hM.2.2.2 i hi).1
  have n4 := hM.2.2.1
  intro k
  induction k using Nat.strongRecOn with
  | ind k ih =>
  intro N i m q hi hN h g
  obtain ⟨N, rfl⟩ : ∃ N', N = N' + 1 := ⟨N - 1, by omega⟩
  have h' := h
  obtain ⟨x50, x51, R, T, w, bd, -, -, -, -⟩ := h'
  have t0 := T.2.2.2.2.2.2
  have tb := T.2.2.2.2.2.1
  have hS := w.1
  have l1 := hS.1.2.2.1
  have l5 := hS.1.2.2.2.2.2.2
  have hdp := (aZs_d w.2.1 l5 l1).1
  have cont : ∀ r m', eOut b n m0 i q r m' → eWp (l_X8_readAll_64 gSH F N 62 r m') (fun r m' => (r = 1 ∧ ∃ i' q', (∀ k, aRun (kK b n) (k + i' + 1) 0 aQ0 = (0, i', q')) ∧ RB b n m0 m' i' q') ∨ (r = 0 ∧ ∃ c i', c ≠ 0 ∧ c < 2 ^ 31 ∧ aEnd (kK b n) 0 aQ0 c i' ∧ FLt b n m0 m' c i')) := by
    rintro r m' (⟨rfl, i', q', g', hlt, h'⟩ | ⟨rfl, c, i', hc, hc2, hE, hf⟩)
    · obtain ⟨_, _, _, T', _⟩ := id h'
      have tb' := T'.2.2.2.2.2.1
      exact ih (4001 - i') (by omega) N i' m' q' (by omega) (by omega) h' (g.trans g')
    · obtain ⟨N, rfl⟩ : ∃ N', N = N' + 1 := ⟨N - 1, by omega⟩
      show eWp (b_X8_readAll_64 gSH F (l_X8_readAll_64 gSH F N) 62 0 m') _
      unfold b_X8_readAll_64
      rw [if_pos rfl]
      exact .so (Or.inr ⟨rfl, c, i', hc, hc2, g.stop hE, hf⟩)
  have b82 : (kK b n i = 266 → 0 < q 0 4) → eWp (b_X8_readAll_82 gSH F (l_X8_readAll_64 gSH F N) 62 m) (fun r m' => (r = 1 ∧ ∃ i' q', (∀ k, aRun (kK b n) (k + i' + 1) 0 aQ0 = (0, i', q')) ∧ RB b n m0 m' i' q') ∨ (r = 0 ∧ ∃ c i', c ≠ 0 ∧ c < 2 ^ 31 ∧ aEnd (kK b n) 0 aQ0 c i' ∧ FLt b n m0 m' c i')) := by
    intro hE
    have hdec : q 0 7 = 0 → eWp (b_X8_readAll_103 gSH F (l_X8_readAll_64 gSH F N) 62 m) _ := fun hst => by
      unfold b_X8_readAll_103 b_X8_readAll_114
      rw [ob_62, g_ift]
      exact (c_dec hM hW hR hF h hst hE).bn cont
    unfold b_X8_readAll_82
    rw [ob_62, g_ift, R.2.2.2.1.1.1]
    by_cases hd : 0 < q 0 4
    rotate_left
    · rw [if_pos (show nI (q 0 4) = 0 by rw [show q 0 4 = 0 by omega]; rfl)]
      refine hdec ?_
      rcases bd.1 with h | h
      · exact h.1
      · exact absurd h.2.1 hd
    obtain ⟨r88, -, -⟩ := R.2.2.2.1.2 (q 0 4 - 1) (by omega)
    rw [if_neg (nI_ne0 hd (by omega)), show m.2.2 62 43 = some 88 by rw [R.1.2.2]; exact hR.2.1, g_bs, nI_p1 hd, show aB gSH 88 .int (nI (q 0 4 - 1)) = true from g_inI (N := 300) (by omega) (by decide), g_ift, nI_clamp (by omega), r88]
    by_cases hst : q 0 7 = 0
    · have e1 : q 9 (q 0 4 - 1) = 1 := by
        rcases bd.1 with h | h
        · exact h.2 hd
        · omega
      rw [if_pos (show nI (fk (q 9 (q 0 4 - 1))) = 0 by rw [e1]; rfl)]
      exact hdec hst
    · obtain ⟨-, -, tf, te⟩ := bd_x bd hst
      rw [te] at tf
      rw [if_neg (nI_ne0 (by unfold isE at tf; unfold fk; (repeat' split); all_goals omega) (by unfold fk; (repeat' split); all_goals omega))]
      unfold b_X8_readAll_114
      exact (c_exp hM hW hR hF h hst).bn cont
  show eWp (b_X8_readAll_64 gSH F (l_X8_readAll_64 gSH F N) 62 1 m) _
  unfold b_X8_readAll_64
  rw [if_neg one0, ob_62, g_ift]
  by_cases he : kK b n i = 266
  · rw [if_pos ((tk_0 hb T).mpr he), R.2.2.2.1.1.1]
    by_cases hd : 0 < q 0 4
    · rw [if_neg (show ¬ nI (q 0 4) ≤ 0 from nI_ge (a := 0) hd (by omega))]
      exact b82 (fun _ => hd)
    · have hd0 : q 0 4 = 0 := by omega
      rw [if_pos (show nI (q 0 4) ≤ 0 by rw [hd0]; decide)]
      refine .so (Or.inl ⟨rfl, i, q, fun k => ?_, h⟩)
      have := g.2 (k + 1)
      rw [show k + 1 + (i - 0) = k + i + 1 by omega] at this
      rw [this]
      have hst : q 0 7 = 0 := by
        rcases bd.1 with h | h
        · exact h.1
        · exact absurd h.2.1 hd
      have e : aT i 266 q = (0, q) := by simp [aT, aDec, hst, hd0]
      show (if kK b n i = 267 then _ else if (aT i (kK b n i) q).1 = 0 then (if kK b n i = 266 then _ else _) else _) = _
      rw [he, if_neg (by decide), e, if_pos rfl, if_pos rfl]
  · rw [if_neg (fun e => he ((tk_0 hb T).mp e))]
    exact b82 (fun h => absurd h he)
theorem e_next0 (hM : MadeR m0 b n) (hW : WdR m0) (hF : 5000 ≤ F) (h : RM b n m0 m q x21 x50 x51) (h37 : m.1 62 37 = nI 0) :
    eWp (f_X8_next gSH F 62 m) (fun r m' => (r = 0 ∧ kK b n 0 = 267 ∧ FLt b n m0 m' 1 0) ∨ (r = 1 ∧ RM b n m0 m' q x21 x50 x51 ∧ TKn b n m' 0)) := by
  obtain ⟨k, h7, hP, hR, e21, e50, e51⟩ := h
  obtain ⟨r, m', e, g1, g2, g3, g4⟩ := s_next (F := F) (k.made hM) (k.wd hW) hF (Nat.zero_le n) h37 h7
  refine ⟨r, m', e, ?_⟩
  have k' := k.k g1
  by_cases hB : kK b n 0 = 267
  · obtain ⟨a1, a2, a3⟩ := g3 hB
    exact Or.inl ⟨a1, hB, k', a2, a3, Nat.zero_le _⟩
  · obtain ⟨a1, a2, a3, a4, a5, a6⟩ := g4 hB
    have ek : ∀ c, c ≠ 62 → m'.1 c = m.1 c := g1.1
    have ej : ∀ j, j ∉ fT → m'.1 62 j = m.1 62 j := g1.2.1
    refine Or.inr ⟨a1, ⟨k', a2, ?_, ?_, by rw [ej 21 (by decide)]; exact e21, by rw [ej 50 (by decide)]; exact e50, by rw [ej 51 (by decide)]; exact e51⟩, g2, a3, a4, a5, a6, ⟨Nat.zero_le _, Nat.zero_le _⟩, hB⟩
    · unfold RPr
      rw [ej 10 (by decide), ej 15 (by decide), ej 20 (by decide), ek 66 (by decide), ek 67 (by decide), ek 68 (by decide), ek 69 (by decide), ek 70 (by decide), ek 71 (by decide), ek 72 (by decide), ek 73 (by decide), ek 74 (by decide), ek 75 (by decide)]
      exact hP
    · unfold RFr
      rw [ej 47 (by decide), ej 48 (by decide), ej 49 (by decide), ek 88 (by decide), ek 89 (by decide), ek 90 (by decide), ek 91 (by decide)]
      exact hR
/-- the reference's readAll is the abstract run -/
theorem s_readAll (hM : MadeR m b n) (hW : WdR m) (hR : RPt m) (hF : 5000 ≤ F) :
    ∃ r m', f_X8_readAll gSH F 62 m = some (r, m') ∧ KF m m' ∧ ((aRun (kK b n) 4001 0 aQ0).1 = 0 → r = 1 ∧ m'.1 62 7 = 0 ∧ RPr (kS b n) (kL b n) m' (aRun (kK b n) 4001 0 aQ0).2.2 ∧ aW (aRun (kK b n) 4001 0 aQ0).2.2) ∧
      ((aRun (kK b n) 4001 0 aQ0).1 ≠ 0 → r = 0 ∧ m'.1 62 7 = nI (aRun (kK b n) 4001 0 aQ0).1 ∧ m'.1 62 42 = nI (kS b n (aRun (kK b n) 4001 0 aQ0).2.1)) ∧ (aRun (kK b n) 4001 0 aQ0).1 < 2 ^ 31 := by
  have n4 := hM.2.2.1
  have hb : ∀ i, i < n → b i < 256 := fun i hi => (hM.2.2.2 i hi).1
  let m1 := gsI (gsI (gsI (gsI (gsI (gsI (gsI (gsI (gsI (gsI (gsI m 62 7 0) 62 10 1) 66 0 (-1)) 67 0 0) 62 15 0) 62 20 0) 62 21 0) 62 47 0) 62 48 0) 62 49 0) 62 37 0
  have k1 : KF m m1 := ((((((((((KF.refl m).s (by decide)).s (by decide)).r (by unfold rdR; omega)).r (by unfold rdR; omega)).s (by decide)).s (by decide)).s (by decide)).s (by decide)).s (by decide)).s (by decide) |>.s (by decide)
  have R1 : RM b n m m1 aQ0 0 (m.1 62 50) (m.1 62 51) := by
    refine ⟨k1, ?_, ⟨⟨?_, ?_, ?_⟩, fun i hi => ?_, fun i hi => ?_, fun i hi => ?_⟩, ⟨⟨?_, ?_, ?_⟩, fun i hi => ?_⟩, ?_, ?_, ?_⟩
    all_goals first
      | (simp [aQ0] at hi; done)
      | (simp [m1, gI_1, aQ0]; done)
      | (simp [m1, gI_1, aQ0]; rfl)
      | skip
    · have hi0 : i = 0 := by
        have : i < 1 := hi
        omega
      subst hi0
      simp [m1, gI_1, aQ0]
      decide
  have key : eWp (f_X8_readAll gSH F 62 m) (fun r m' => (r = 1 ∧ ∃ i' q', (∀ k, aRun (kK b n) (k + i' + 1) 0 aQ0 = (0, i', q')) ∧ RB b n m m' i' q') ∨ (r = 0 ∧ ∃ c i', c ≠ 0 ∧ c < 2 ^ 31 ∧ i' ≤ 4000 ∧ aEnd (kK b n) 0 aQ0 c i' ∧ FLt b n m m' c i')) := by
    unfold f_X8_readAll
    rw [ob_62, g_ift, g_nmb, g_nmb, show (gsI (gsI m 62 7 0) 62 10 1).2.2 62 8 = some 66 from hR.1.1, g_bs, show aB gSH 66 .int 0 = true from rfl, g_ift, g_nmb, show (gsI (gsI (gsI m 62 7 0) 62 10 1) 66 (0 : Int32).toNatClampNeg (-1)).2.2 62 9 = some 67 from hR.1.2.1, g_bs, show aB gSH 67 .int 0 = true from rfl, g_ift, g_nmb, g_nmb, g_nmb, g_nmb, g_nmb, g_nmb, g_nmb, g_nmb]
    show eWp ((f_X8_next gSH F 62 m1).bind _) _
    refine (e_next0 hM hW hF R1 rfl).bn ?_
    obtain ⟨N, hN⟩ : ∃ N', F = N' + 1 := ⟨F - 1, by omega⟩
    rintro r m2 (⟨rfl, hbad, hf⟩ | ⟨rfl, R2, T2⟩)
    · have e : l_X8_readAll_64 gSH F F = l_X8_readAll_64 gSH F (N + 1) := by rw [← hN]
      rw [e]
      show eWp (b_X8_readAll_64 gSH F (l_X8_readAll_64 gSH F N) 62 0 m2) _
      unfold b_X8_readAll_64
      rw [if_pos rfl]
      exact .so (Or.inr ⟨rfl, 1, 0, by decide, by decide, by decide, .bad hbad, hf⟩)
    · refine (e_all hM hW hR hF 4001 F 0 m2 aQ0 rfl (by omega) ?_ .refl).mono ?_
      · refine ⟨_, _, R2, T2, ⟨aS_0, aZ_0⟩, ⟨Or.inl ⟨rfl, fun h => absurd h (by simp [aQ0])⟩, ⟨fun h => absurd h (by simp [aQ0]), fun j h => absurd h (by simp [aQ0])⟩, fun j h => absurd h (by simp [aQ0])⟩, fun h => absurd h (by simp [aQ0]), fun h => absurd h (by simp [aQ0]), fun h => absurd h (by simp [aQ0]), fun h => absurd h (by simp [aQ0])⟩
      · rintro r m3 (h | ⟨rfl, c, i', hc, hc2, hE, hf⟩)
        · exact Or.inl h
        · exact Or.inr ⟨rfl, c, i', hc, hc2, Nat.le_trans hf.2.2.2 n4, hE, hf⟩
  obtain ⟨r, m', e, hh⟩ := key
  refine ⟨r, m', e, ?_⟩
  rcases hh with ⟨rfl, i', q', hrun, h⟩ | ⟨rfl, c, i', hc, hc2, hi, hE, hf⟩
  · obtain ⟨x50, x51, R, T, w, -⟩ := h
    have tb := T.2.2.2.2.2.1
    have := hrun (4000 - i')
    rw [show 4000 - i' + i' + 1 = 4001 by omega] at this
    rw [this]
    exact ⟨R.1, fun _ => ⟨rfl, R.2.1, R.2.2.1, w⟩, fun h => absurd rfl h, show (0 : Nat) < 2 ^ 31 by decide⟩
  · obtain ⟨q', hq⟩ := hE.2 (4000 - i')
    rw [show 4000 - i' + (i' - 0) + 1 = 4001 by omega] at hq
    rw [hq]
    exact ⟨hf.1, fun h => absurd h hc, fun _ => ⟨rfl, hf.2.1, hf.2.2.1⟩, hc2⟩
end REF
