/-! THE REFERENCE'S READER: binds, ends -/
section REF
variable {b : Nat → Nat} {n F : Nat} {m0 m : gM} {q qa qh : Nat → Nat → Nat} {x21 x50 x51 : Int32} {i j : Nat}
theorem e_next2 (hM : MadeR m0 b n) (hW : WdR m0) (hF : 5000 ≤ F) (h : RM b n m0 m q x21 x50 x51) (t : TKn b n m j) (hk : kK b n j ≠ 266) :
    eWp (f_X8_next gSH F 62 m) (fun r m' => (r = 0 ∧ kK b n (j + 1) = 267 ∧ FLt b n m0 m' 1 (j + 1)) ∨ (r = 1 ∧ RM b n m0 m' q x21 x50 x51 ∧ TKn b n m' (j + 1) ∧ ∀ c, c ≠ 62 → m'.1 c = m.1 c)) := by
  obtain ⟨r, m', e, hh⟩ := e_next hM hW hF h t hk
  have hb : ∀ i, i < n → b i < 256 := fun i hi => (hM.2.2.2 i hi).1
  have hs : tS b n (tP b n j) < n := by
    by_cases h : tS b n (tP b n j) < n
    · exact h
    · exact absurd ((tK_266 (p := tP b n j) hb).1.mpr h) hk
  have hp : tP b n (j + 1) ≤ n := (tL_le hs).2
  obtain ⟨r2, m2, e2, g1, -⟩ := s_next (F := F) (h.1.made hM) (h.1.wd hW) hF hp (t.2.2.2.1 hk) h.2.1
  rw [e] at e2
  cases e2
  refine ⟨r, m', e, ?_⟩
  rcases hh with hh | ⟨h1, h2, h3⟩
  · exact Or.inl hh
  · exact Or.inr ⟨h1, h2, h3, g1.1⟩
theorem e_inner (h : RM b n m0 m q x21 x50 x51) {v : Int32} {s : Nat} (hv : v = nI s) : RM b n m0 (gsI m 91 (q 0 4 - 1) v) (uq q 11 (q 0 4 - 1) s) x21 x50 x51 := by
  obtain ⟨k, h7, hP, ⟨⟨a1, a2, a3⟩, b1⟩, e21, e50, e51⟩ := h
  refine ⟨k.r (by unfold rdR; omega), ?_, ?_, ⟨⟨?_, ?_, ?_⟩, fun i hi => ?_⟩, ?_, ?_, ?_⟩
  · simpa [gI_1] using h7
  · exact RPr.eq (q := q) (by simpa [RPr, gI_1] using hP) (fun c j hc h0 => by
      simp only [uq]
      rw [if_neg (by omega)])
  · simpa [gI_1, uq] using a1
  · simpa [gI_1, uq] using a2
  · simpa [gI_1, uq] using a3
  · have h := b1 i (by simpa [uq] using hi)
    by_cases e : i = q 0 4 - 1
    · subst e
      simp [gI_1, uq, h.1, h.2.1, hv]
      exact fun hh => (h.2.2 hh).1
    · simpa [gI_1, uq, e] using h
  · simpa [gI_1] using e21
  · simpa [gI_1] using e50
  · simpa [gI_1] using e51
theorem e_openB (hR : RPt m0) (h : RM b n m0 m q x21 x50 x51) (t : TKn b n m j) (hn : q 0 4 < 300) {fr : Nat} (inn : Nat) (hf : fk fr = 4) : ∃ m1, f_X8_open gSH F 62 4 m = some m1 ∧ m1.2 = m0.2 ∧ m1.1 62 47 = nI (q 0 4 + 1) ∧ m1.1 62 49 = nI (q 0 6) ∧ m1.1 62 10 = nI (q 0 0) ∧
    ∀ v v', v = nI (fr + 11) → v' = nI inn → RM b n m0 (gsI (gsI m1 90 (q 0 4) v) 91 (q 0 4) v') (aPush q fr inn) x21 x50 x51 ∧ TKn b n (gsI (gsI m1 90 (q 0 4) v) 91 (q 0 4) v') j := by
  obtain ⟨k, h7, hP, ⟨⟨a1, a2, a3⟩, b1⟩, e21, e50, e51⟩ := h
  obtain ⟨-, r43, r44, -⟩ := hR
  refine ⟨gsI (gsI (gsI m 88 (q 0 4) (nI 4)) 89 (q 0 4) (nI (q 0 6))) 62 47 (nI (q 0 4 + 1)), ?_, k.2.2, ?_, ?_, ?_, fun v v' hv hv' => ⟨⟨(((((k.r (by unfold rdR; omega)).r (by unfold rdR; omega)).s (by decide)).r (by unfold rdR; omega)).r (by unfold rdR; omega)), ?_, ?_, ⟨⟨?_, ?_, ?_⟩, fun i hi => ?_⟩, ?_, ?_, ?_⟩, ((((t.x (by omega)).x (by omega)).x (by omega)).x (by omega)).x (by omega)⟩⟩
  · unfold f_X8_open
    have c3 : (nI (q 0 4)).toNatClampNeg = q 0 4 := nI_clamp (by omega)
    have c4 : aB gSH 88 .int (nI (q 0 4)) = true := g_inI (N := 300) (by omega) (by decide)
    have c5 : aB gSH 89 .int (nI (q 0 4)) = true := g_inI (N := 300) (by omega) (by decide)
    rw [← k.2.2] at r43 r44
    simp [ob_62, a1, a3, r43, r44, c3, c4, c5, g_ift, g_nmb, g_bs, gI_1, gI_2, nI_1]
    rfl
  · simp [gI_1]
  · simpa [gI_1] using a3
  · have := hP.1.1
    simpa [gI_1] using this
  · simpa [gI_1] using h7
  · exact RPr.eq (q := q) (by simpa [RPr, gI_1] using hP) (fun c j hc h0 => by
      simp only [aPush, uq]
      rw [if_neg (by omega), if_neg (by omega), if_neg (by omega), if_neg (by omega)])
  · simp [gI_1, aPush, uq]
  · simpa [gI_1, aPush, uq] using a2
  · simpa [gI_1, aPush, uq] using a3
  · simp [aPush, uq] at hi
    by_cases e : i = q 0 4
    · subst e
      simp [gI_1, aPush, uq, hf, hv, hv']
    · have := b1 i (by omega)
      simpa [gI_1, aPush, uq, e] using this
  · simpa [gI_1] using e21
  · simpa [gI_1] using e50
  · simpa [gI_1] using e51
/-- = of a bind -/
theorem e_eq (hM : MadeR m0 b n) (hW : WdR m0) (hF : 5000 ≤ F) (R : RM b n m0 m qa (nI (qa 0 3)) x50 x51) (T : TKn b n m j) (hk : kK b n j ≠ 266) (g : aGo (kK b n) i q (j + 1) qa) (hi : i ≤ j) (w : aW qa) (s7 : qa 0 7 = 7) (dp : 0 < qa 0 4) (tf : qa 9 (qa 0 4 - 1) = 11 ∨ isE (qa 9 (qa 0 4 - 1))) (bd : shp (qa 0 4) (qa 9) ∧ dSc (qa 0 4) (qa 0 6) (qa 9) (qa 10)) (h50 : 0 < qa 0 2 → x50 = 0) : eWp (b_X8_bind_132 gSH F 62 m) (eOut b n m0 i q) := by
  have hb : ∀ i, i < n → b i < 256 := fun i hi => (hM.2.2.2 i hi).1
  unfold b_X8_bind_132
  rw [ob_62, g_ift]
  refine x_nx hM hW hF R T hk (fun m' hbad hf => out_bad g hbad hf) (fun m1 R1 T1 => ?_)
  have t1 := T1.2.2.2.2.2.2
  refine x_is hb T1 (c := 61) (by decide) (fun hc => ?_) (fun hc => ?_)
  rotate_left
  · rw [if_pos rfl]
    exact x_od R1 T1 (fun m' hf => out_hit g t1 (show aT (j + 1) (kK b n (j + 1)) qa = (2, qa) by simp [aT, s7, hc]) (by decide) hf)
  rw [if_neg one0, g_nmb]
  have e3 : aT (j + 1) (kK b n (j + 1)) qa = (0, aTurn qa 10) := by simp [aT, s7, hc]
  have z3 : (aTurn qa 10) 0 3 = qa 0 3 := by simp [aTurn, uq]
  have z7 : (aTurn qa 10) 0 7 = 10 := by simp [aTurn, uq]
  have R8 := ((R1.x 0).2.2).e2 (q' := aTurn qa 10) (by simp [aTurn, uq]) (fun r => by simp [aTurn, uq])
  refine (fin_next hM hW hF (by rw [z3]; exact R8) (T1.x (by omega)) (by omega) (g.trans (.step rfl e3 t1 (by omega))) (by omega) (aW_go w e3) ⟨Or.inr ⟨by omega, ?_, ?_⟩, bd_cong bd (by simp [aTurn, uq]) (by simp [aTurn, uq]) (fun j _ => by simp [aTurn, uq]) (fun j _ => by simp [aTurn, uq])⟩ (by simpa [aTurn, uq] using h50) (fun _ => rfl) (fun h => by omega) (fun h => by omega)).tl (fun r m h => h.z)
  · simpa [aTurn, uq] using dp
  · simpa [aTurn, uq] using tf
/-- NAME = of a bind -/
theorem e_bind (hM : MadeR m0 b n) (hW : WdR m0) (hR : RPt m0) (hF : 5000 ≤ F) (R : RM b n m0 m qa (nI (qa 0 3)) x50 x51) (T : TKn b n m j) (g : aGo (kK b n) i q j qa) (hi : i < j) (w : aW qa) (s5 : qa 0 7 = 5) (dp : 0 < qa 0 4) (tf : qa 9 (qa 0 4 - 1) = 3 ∨ qa 9 (qa 0 4 - 1) = 4 ∨ qa 9 (qa 0 4 - 1) = 5) (bd : shp (qa 0 4) (qa 9) ∧ dSc (qa 0 4) (qa 0 6) (qa 9) (qa 10)) (h50 : 0 < qa 0 2 → x50 = 0) : eWp (f_X8_bind gSH F 62 m) (eOut b n m0 i q) := by
  have hb : ∀ i, i < n → b i < 256 := fun i hi => (hM.2.2.2 i hi).1
  have t0 := T.2.2.2.2.2.2
  have hS := w.1
  have l0 := hS.1.2.1
  have l1 := hS.1.2.2.1
  have l5 := hS.1.2.2.2.2.2.2
  have hdp := (aZs_d w.2.1 l5 l1).1
  have tF : topF qa = qa 9 (qa 0 4 - 1) := by simp [topF, dp]
  have tI : topI qa = qa 11 (qa 0 4 - 1) := by simp [topI, dp]
  have tO : topO qa = qa 10 (qa 0 4 - 1) := by simp [topO, dp]
  obtain ⟨r88, r89, r9x⟩ := R.2.2.2.1.2 (qa 0 4 - 1) (by omega)
  have hB : hasB (qa 9 (qa 0 4 - 1)) = true := by
    rcases tf with h | h | h <;> rw [h] <;> rfl
  obtain ⟨r90, r91⟩ := r9x hB
  have ib : ∀ {c : Nat}, (∀ x, aB gSH c .int x = inB x 300) → aB gSH c .int (nI (qa 0 4 - 1)) = true := fun h => by rw [h]; exact g_inI (by omega) (by decide)
  unfold f_X8_bind
  rw [ob_62, g_ift, R.2.2.2.1.1.1, nI_p1 dp, g_nmb]
  by_cases hn : kK b n j = 264
  rotate_left
  · rw [if_neg (fun e => hn ((tk_1 hb T).mp e))]
    exact x_od R T (fun m' hf => out_hit g t0 (show aT j (kK b n j) qa = (2, qa) by simp [aT, s5, hn]) (by decide) hf)
  have eN : aT j (kK b n j) qa = aBind j qa := by simp [aT, aName, s5, hn]
  have p90 : ∀ {m : gM}, m.2 = m0.2 → m.2.2 62 90 = m.2.2 62 90 := fun _ => rfl
  have k45 : m.2.2 62 45 = some 90 := by rw [R.1.2.2]; exact hR.2.2.2.1
  have k46 : m.2.2 62 46 = some 91 := by rw [R.1.2.2]; exact hR.2.2.2.2
  rw [if_pos ((tk_1 hb T).mpr hn), k45, g_bs, ib (fun x => rfl), g_ift, nI_clamp (by omega), r90]
  by_cases h3 : qa 9 (qa 0 4 - 1) = 3
  · rw [if_pos (show nI (qa 9 (qa 0 4 - 1) + 11) = 14 by rw [h3]; rfl), k46, g_bs, ib (fun x => rfl), g_ift, r91, g_nmb]
    have R1 := e_here R (v := nI (qa 11 (qa 0 4 - 1))) rfl
    have T1 : TKn b n (gsI m 62 49 (nI (qa 11 (qa 0 4 - 1)))) j := T.x (by omega)
    generalize gsI m 62 49 (nI (qa 11 (qa 0 4 - 1))) = m1 at R1 T1
    have f1 : (uq qa 0 6 (qa 11 (qa 0 4 - 1))) 0 1 = qa 0 1 := by simp [uq]
    have e10 : m1.1 62 10 = nI (qa 0 0) := by
      have := R1.2.2.1.1.1
      simpa [uq] using this
    refine x_dc hR R1 T1 hn (by rw [f1]; exact l1) (sc := qa 0 0) e10 (has := 0) (by decide) (fun hd m' hf => ?_) (fun hd m2 R2 T2 => ?_)
    · rw [f1] at hd
      exact out_hit (c := 4) (qx := qa) g t0 (by rw [eN]; unfold aBind; rw [tF, if_pos h3, if_pos hd]) (by decide) hf
    rw [f1] at hd
    have f0 : (aDecl (uq qa 0 6 (qa 11 (qa 0 4 - 1))) (qa 0 0) j 0) 0 0 = qa 0 0 := by simp [aDecl, uq]
    refine x_sc hR R2 T2 (by rw [f0]; exact l0) (par := qa 11 (qa 0 4 - 1) + 1) (kd := 3) (by
      rw [nI_pred, R2.2.2.2.1.1.2.2]
      simp [aDecl, uq]) rfl (fun hs m' hf => ?_) (fun hs m3 R3 T3 => ?_)
    · rw [f0] at hs
      exact out_hit (c := 5) (qx := qa) g t0 (by rw [eN]; unfold aBind; rw [tF, if_pos h3, if_neg hd, if_pos hs]) (by decide) hf
    rw [f0] at hs
    have e310 : m3.1 62 10 - 1 = nI (qa 0 0) := by
      rw [R3.2.2.1.1.1]
      simp [aScope, aDecl, uq]
      exact nI_pred _
    have g4 : (aScope (aDecl (uq qa 0 6 (qa 11 (qa 0 4 - 1))) (qa 0 0) j 0) 3 (qa 11 (qa 0 4 - 1) + 1)) 0 4 = qa 0 4 := by simp [aScope, aDecl, uq]
    rw [show m3.2.2 62 46 = some 91 by rw [R3.1.2.2]; exact hR.2.2.2.2, g_bs, ib (fun x => rfl), g_ift, e310, g_nmb]
    have R4 := e_inner R3 (v := nI (qa 0 0)) rfl
    rw [g4] at R4
    generalize hq2 : aTurn (aDecl (aTop (uq (aScope qa 3 (qa 11 (qa 0 4 - 1) + 1)) 0 6 (qa 11 (qa 0 4 - 1))) 3 (qa 0 0)) (qa 0 0) j 0) 7 = q2
    have e2 : aT j (kK b n j) qa = (0, q2) := by
      rw [eN]
      unfold aBind aDeclIn
      rw [tF, tI, if_pos h3, if_neg hd, if_neg hs, if_neg (by simp [aTop, aScope, uq]; omega), hq2]
    have z3 : q2 0 3 = qa 0 3 := by rw [← hq2]; simp [aTurn, aDecl, aTop, aScope, uq]
    have z4 : q2 0 4 = qa 0 4 := by rw [← hq2]; simp [aTurn, aDecl, aTop, aScope, uq]
    have z9 : ∀ r, q2 9 r = qa 9 r := by
      intro r
      rw [← hq2]
      simp [aTurn, aDecl, aTop, aScope, uq]
      intro hr
      rw [hr, h3]
    have R5 := R4.e2 (q' := q2) (by rw [← hq2]; simp [aTurn, aDecl, aTop, aScope, uq]) (fun r => by
      have := z9 r
      rw [← hq2] at this ⊢
      simp [aTurn, aDecl, aTop, aScope, uq] at this ⊢
      exact this)
    refine e_eq hM hW hF (by rw [z3]; exact R5) (T3.x (by omega)) (by omega) (g.trans (.step rfl e2 t0 (by omega))) (by omega) (aW_go w e2) (by rw [← hq2]; simp [aTurn, uq]) (by omega) (by rw [z4, z9]; unfold isE; omega) ?_ (by rw [← hq2]; simpa [aTurn, aDecl, aTop, aScope, uq] using h50)
    rw [z4]
    exact ⟨bd.1.cong (fun j _ => z9 j), bd.2.here (fun j _ => z9 j) (fun j _ => by rw [← hq2]; simp [aTurn, aDecl, aTop, aScope, uq]) (fun _ => by rw [z9]; omega)⟩
  rw [if_neg (show ¬ nI (qa 9 (qa 0 4 - 1) + 11) = 14 from fun e => by
    have := (k_lit (k := qa 9 (qa 0 4 - 1) + 11) (v := 14) (by omega) (by omega)).mp e
    omega), k46, g_bs, ib (fun x => rfl), g_ift]
  refine x_dc hR R T hn l1 (sc := qa 11 (qa 0 4 - 1)) r91 (has := 0) (by decide) (fun hd m' hf => ?_) (fun hd m2 R2 T2 => ?_)
  · by_cases h4 : qa 9 (qa 0 4 - 1) = 4
    · exact out_hit (c := 4) (qx := uq qa 0 6 (topI qa)) g t0 (by rw [eN]; unfold aBind aDeclIn; rw [tF, if_neg h3, if_pos h4, if_pos (by simpa [uq] using hd)]) (by decide) hf
    · exact out_hit (c := 4) (qx := uq qa 0 6 (topO qa)) g t0 (by rw [eN]; unfold aBind aDeclIn; rw [tF, if_neg h3, if_neg h4, if_pos (by simpa [uq] using hd)]) (by decide) hf
  obtain ⟨s88, s89, s9x⟩ := R2.2.2.2.1.2 (qa 0 4 - 1) (by simp [aDecl, uq]; omega)
  have hB2 : hasB ((aDecl qa (qa 11 (qa 0 4 - 1)) j 0) 9 (qa 0 4 - 1)) = true := by simpa [aDecl, uq] using hB
  obtain ⟨s90, s91⟩ := s9x hB2
  have s90' : m2.1 90 (qa 0 4 - 1) = nI (qa 9 (qa 0 4 - 1) + 11) := by simpa [aDecl, uq] using s90
  have s91' : m2.1 91 (qa 0 4 - 1) = nI (qa 11 (qa 0 4 - 1)) := by simpa [aDecl, uq] using s91
  have s89' : m2.1 89 (qa 0 4 - 1) = nI (qa 10 (qa 0 4 - 1)) := by simpa [aDecl, uq] using s89
  have k45' : m2.2.2 62 45 = some 90 := by rw [R2.1.2.2]; exact hR.2.2.2.1
  have k46' : m2.2.2 62 46 = some 91 := by rw [R2.1.2.2]; exact hR.2.2.2.2
  have k44' : m2.2.2 62 44 = some 89 := by rw [R2.1.2.2]; exact hR.2.2.1
  have fin : ∀ h' : Nat, aT j (kK b n j) qa = (0, aTurn (aDecl (uq qa 0 6 h') (qa 11 (qa 0 4 - 1)) j 0) 7) → eWp (b_X8_bind_129 gSH F 62 (nI h') 62 m2) (eOut b n m0 i q) := by
    intro h' e2
    unfold b_X8_bind_129
    rw [ob_62, g_ift, g_nmb]
    have R3 := e_here R2 (v := nI h') rfl
    have T3 : TKn b n (gsI m2 62 49 (nI h')) j := T2.x (by omega)
    generalize hq2 : aTurn (aDecl (uq qa 0 6 h') (qa 11 (qa 0 4 - 1)) j 0) 7 = q2
    rw [hq2] at e2
    have z3 : q2 0 3 = qa 0 3 := by rw [← hq2]; simp [aTurn, aDecl, uq]
    have z4 : q2 0 4 = qa 0 4 := by rw [← hq2]; simp [aTurn, aDecl, uq]
    have z9 : ∀ r, q2 9 r = qa 9 r := by intro r; rw [← hq2]; simp [aTurn, aDecl, uq]
    have R5 := R3.e2 (q' := q2) (by rw [← hq2]; simp [aTurn, aDecl, uq]) (fun r => by rw [← hq2]; simp [aTurn, aDecl, uq])
    refine e_eq hM hW hF (by rw [z3]; exact R5) T3 (by omega) (g.trans (.step rfl e2 t0 (by omega))) (by omega) (aW_go w e2) (by rw [← hq2]; simp [aTurn, uq]) (by omega) (by rw [z4, z9]; unfold isE; omega) ?_ (by rw [← hq2]; simpa [aTurn, aDecl, uq] using h50)
    rw [z4]
    exact ⟨bd.1.cong (fun j _ => z9 j), bd.2.here (fun j _ => z9 j) (fun j _ => by rw [← hq2]; simp [aTurn, aDecl, uq]) (fun _ => by rw [z9]; omega)⟩
  rw [k45', g_bs, ib (fun x => rfl), g_ift, s90']
  by_cases h4 : qa 9 (qa 0 4 - 1) = 4
  · rw [if_pos (show nI (qa 9 (qa 0 4 - 1) + 11) = 15 by rw [h4]; rfl), k46', g_bs, ib (fun x => rfl), g_ift, s91']
    refine fin _ ?_
    rw [eN]
    unfold aBind aDeclIn
    rw [tF, if_neg h3, if_pos h4, if_neg (by simpa [uq] using hd), tI]
  · rw [if_neg (show ¬ nI (qa 9 (qa 0 4 - 1) + 11) = 15 from fun e => by
      have := (k_lit (k := qa 9 (qa 0 4 - 1) + 11) (v := 15) (by omega) (by omega)).mp e
      omega), k44', g_bs, ib (fun x => rfl), g_ift, s89']
    refine fin _ ?_
    rw [eN]
    unfold aBind aDeclIn
    rw [tF, if_neg h3, if_neg h4, if_neg (by simpa [uq] using hd), tI, tO]
/-- let, rec, par -/
theorem c_binds (hM : MadeR m0 b n) (hW : WdR m0) (hR : RPt m0) (hF : 5000 ≤ F) (h : RB b n m0 m i q) (hst : q 0 7 ≠ 0) (hk : kK b n i = 260 ∨ kK b n i = 261 ∨ kK b n i = 262) : eWp (f_X8_exp gSH F 62 m) (eOut b n m0 i q) := by
  have hb : ∀ i, i < n → b i < 256 := fun i hi => (hM.2.2.2 i hi).1
  obtain ⟨x50, x51, R, T, w, bd, h50, -, -, -⟩ := h
  obtain ⟨s, dp, tf, te⟩ := bd_x bd hst
  have t0 := T.2.2.2.2.2.2
  have hS := w.1
  have l0 := hS.1.2.1
  have l1 := hS.1.2.2.1
  have l5 := hS.1.2.2.2.2.2.2
  have hdp := (aZs_d w.2.1 l5 l1).1
  have ht : topF q ≠ 10 := by unfold isE at tf; omega
  have tw : ∀ (v : Nat), 10 ≤ v → v ≤ 17 → (m.1 62 38 = nI v ↔ kK b n i = v + 246) := fun v h1 h2 => tk_w hb T h1 h2
  -- the push
  have psh : ∀ (fr inn : Nat) (qz : Nat → Nat → Nat), fr = 3 ∨ fr = 4 ∨ fr = 5 → qz 0 4 = q 0 4 → qz 0 6 = q 0 6 → qz 0 3 = q 0 3 → qz 0 2 = q 0 2 → (∀ r, qz 9 r = q 9 r ∧ qz 10 r = q 10 r) → ∀ (m1 : gM), RM b n m0 m1 qz (nI (q 0 3)) x50 x51 → TKn b n m1 i → ∀ (x1 : Int32), x1 = nI (fr + 11) → (if fr = 3 then q 0 6 else qz 0 0 - 1) = inn → (fr ≠ 3 → 0 < qz 0 0) → aT i (kK b n i) q = (0, aTurn (aPush qz fr inn) 5) → eWp (b_X8_binds_39 gSH F 62 x1 m1) (eOut b n m0 i q) := by
    intro fr inn qz hfr y4 y6 y3 y2 y9 m1 R1 T1 x1 hx1 hinn hz e1
    unfold b_X8_binds_39
    obtain ⟨m2, e2, k2, e47, e49, e10, hput⟩ := e_openB (F := F) hR R1 T1 (by omega) (fr := fr) inn (by rcases hfr with rfl | rfl | rfl <;> rfl)
    have ib : ∀ {c : Nat}, (∀ x, aB gSH c .int x = inB x 300) → aB gSH c .int (nI (qz 0 4)) = true := fun h => by rw [h]; exact g_inI (by omega) (by decide)
    have v1 : nI (qz 0 4 + 1) - 1 = nI (qz 0 4) := nI_pred _
    rw [ob_62, g_ift, e2, g_bs, show m2.2.2 62 45 = some 90 by rw [k2]; exact hR.2.2.2.1, g_bs, e47, v1, ib (fun x => rfl), g_ift, nI_clamp (by omega), g_nmb, show (gsI m2 90 (qz 0 4) x1).2.2 62 46 = some 91 by rw [gI_2, k2]; exact hR.2.2.2.2, g_bs, show (gsI m2 90 (qz 0 4) x1).1 62 49 = nI (qz 0 6) from e49, show (gsI m2 90 (qz 0 4) x1).1 62 10 = nI (qz 0 0) from e10, show (gsI m2 90 (qz 0 4) x1).1 62 47 = nI (qz 0 4 + 1) from e47, v1]
    have key : ∀ v', v' = nI inn → eWp (b_X8_binds_85 gSH F 62 v' (nI (qz 0 4)) 91 (gsI m2 90 (qz 0 4) x1)) (eOut b n m0 i q) := by
      intro v' hv'
      obtain ⟨R3, T3⟩ := hput x1 v' hx1 hv'
      unfold b_X8_binds_85
      rw [ib (fun x => rfl), g_ift, nI_clamp (by omega), g_nmb, ob_62, g_ift]
      generalize hq1 : aTurn (aPush qz fr inn) 5 = q1
      rw [hq1] at e1
      have g1 : aGo (kK b n) i q (i + 1) q1 := .step rfl e1 t0 (by omega)
      refine x_nx hM hW hF R3 T3 (by omega) (fun m' hbad hf => out_bad g1 hbad hf) (fun m4 R4 T4 => ?_)
      have z3 : q1 0 3 = q 0 3 := by rw [← hq1]; simp [aTurn, aPush, uq, y3]
      have z4 : q1 0 4 = q 0 4 + 1 := by rw [← hq1]; simp [aTurn, aPush, uq, y4]
      have z9 : ∀ r, q1 9 r = if r = q 0 4 then fr else q 9 r := by intro r; rw [← hq1]; simp [aTurn, aPush, uq, y4, (y9 r).1]
      have z10 : ∀ r, q1 10 r = if r = q 0 4 then q 0 6 else q 10 r := by intro r; rw [← hq1]; simp [aTurn, aPush, uq, y4, y6, (y9 r).2]
      have R5 := R4.e2 (q' := q1) (by rw [← hq1]; simp [aTurn, aPush, uq]) (fun r => by rw [← hq1]; simp [aTurn, aPush, uq])
      refine (e_bind hM hW hR hF (by rw [z3]; exact R5) T4 g1 (by omega) (aW_go w e1) (by rw [← hq1]; simp [aTurn, uq]) (by omega) (by rw [z4, z9, if_pos (by omega)]; exact hfr) ⟨?_, ?_⟩ (by rw [← hq1]; simpa [aTurn, aPush, uq, y2] using h50)).tt (fun r m h => h.z)
      · rw [z4]
        rw [te] at tf
        exact bd.2.1.push (fun j hj => by rw [z9, if_neg (by omega)]) (Or.inr ⟨by rw [z9, if_pos rfl]; unfold isE; omega, dp, tf⟩)
      · rw [z4]
        exact bd.2.2.push (fun j hj => by rw [z9, if_neg (by omega)]) (fun j hj => by rw [z10, if_neg (by omega)]) (by rw [z10, if_pos rfl]) (fun h => by rw [z9, if_pos rfl] at h; omega)
    by_cases h3 : fr = 3
    · rw [if_pos (show x1 = 14 by rw [hx1, h3]; rfl)]
      rw [if_pos h3] at hinn
      exact key _ (by rw [y6, hinn])
    · rw [if_neg (show ¬ x1 = 14 from fun e => by
        rw [hx1] at e
        have := (k_lit (k := fr + 11) (v := 14) (by omega) (by omega)).mp e
        omega)]
      rw [if_neg h3] at hinn
      exact key _ (by rw [nI_p1 (hz h3), hinn])
  have main : eWp (f_X8_binds gSH F 62 m) (eOut b n m0 i q) := by
    unfold f_X8_binds
    rw [ob_62, g_ift, g_nmb]
    by_cases h0 : kK b n i = 260
    · have e38 : m.1 62 38 = 14 := (tw 14 (by omega) (by omega)).mpr h0
      rw [if_pos e38]
      refine psh 3 (q 0 6) q (Or.inl rfl) rfl rfl rfl rfl (fun r => ⟨rfl, rfl⟩) m R T _ e38 rfl (fun h => absurd rfl h) ?_
      rw [h0, aT_atom s ht (by omega)]
      simp [aAtom]
    · rw [if_neg (show ¬ m.1 62 38 = 14 from fun e => h0 ((tw 14 (by omega) (by omega)).mp e))]
      have sw : ∀ (fr : Nat) (y0 : Int32), fr = 4 ∨ fr = 5 → y0 = nI fr → m.1 62 38 = nI (fr + 11) → aT i (kK b n i) q = aSW q fr 5 → eWp (b_X8_binds_27 gSH F 62 (m.1 62 38) y0 (m.1 62 49) 62 m) (eOut b n m0 i q) := by
        intro fr y0 hfr hy e38 e1
        unfold b_X8_binds_27
        rw [ob_62, g_ift, g_ift]
        refine x_sc hR R T l0 (par := q 0 6 + 1) (kd := fr) (by rw [nI_pred]; exact R.2.2.2.1.1.2.2) hy (fun hs m' hf => ?_) (fun hs m1 R1 T1 => ?_)
        · exact out_hit (c := 5) (qx := q) .refl t0 (by rw [e1]; unfold aSW; rw [if_pos hs]) (by decide) hf
        · refine psh fr (q 0 0) (aScope q fr (q 0 6 + 1)) (Or.inr hfr) (by simp [aScope, uq]) (by simp [aScope, uq]) (by simp [aScope, uq]) (by simp [aScope, uq]) (fun r => by simp [aScope, uq]) m1 R1 T1 _ e38 ?_ (fun _ => by simp [aScope, uq]) ?_
          · rw [if_neg (by omega)]
            simp [aScope, uq]
          · rw [e1]
            unfold aSW
            rw [if_neg hs]
      by_cases h1 : kK b n i = 261
      · have e38 : m.1 62 38 = 15 := (tw 15 (by omega) (by omega)).mpr h1
        rw [if_pos e38]
        refine sw 4 4 (Or.inl rfl) rfl e38 ?_
        rw [h1, aT_atom s ht (by omega)]
        simp [aAtom]
      · have h2 : kK b n i = 262 := by omega
        rw [if_neg (show ¬ m.1 62 38 = 15 from fun e => h1 ((tw 15 (by omega) (by omega)).mp e))]
        refine sw 5 5 (Or.inr rfl) rfl ((tw 16 (by omega) (by omega)).mpr h2) ?_
        rw [h2, aT_atom s ht (by omega)]
        simp [aAtom]
  unfold f_X8_exp
  rw [ob_62, g_ift, if_neg (fun e => by have := (tk_2 hb T).mp e; omega), if_neg (fun e => by have := (tk_1 hb T).mp e; omega), if_neg (show ¬ m.1 62 38 = 13 from fun e => by have := (tw 13 (by omega) (by omega)).mp e; omega)]
  have m92 : eWp (b_X8_exp_92 gSH F 62 m) (eOut b n m0 i q) := by
    unfold b_X8_exp_92
    rw [ob_62, g_ift]
    exact main.tl (fun r m h => h.z)
  by_cases h0 : kK b n i = 260
  · rw [if_pos (show m.1 62 38 = 14 from (tw 14 (by omega) (by omega)).mpr h0)]
    exact m92
  rw [if_neg (show ¬ m.1 62 38 = 14 from fun e => h0 ((tw 14 (by omega) (by omega)).mp e))]
  by_cases h1 : kK b n i = 261
  · rw [if_pos (show m.1 62 38 = 15 from (tw 15 (by omega) (by omega)).mpr h1)]
    exact m92
  rw [if_neg (show ¬ m.1 62 38 = 15 from fun e => h1 ((tw 15 (by omega) (by omega)).mp e)), if_pos (show m.1 62 38 = 16 from (tw 16 (by omega) (by omega)).mpr (by omega))]
  exact m92
end REF
