/-! THE REFERENCE'S READER: expressions -/
section REF
variable {b : Nat → Nat} {n F : Nat} {m0 m : gM} {q qa qh : Nat → Nat → Nat} {x21 x50 x51 : Int32} {i j : Nat}
/-- { of a body: qa the abstract table, qh the reference's -/
theorem e_body (hM : MadeR m0 b n) (hW : WdR m0) (hR : RPt m0) (hF : 5000 ≤ F) {s fr inn : Nat} {v : Int32} (hv : v = nI s) (R : RM b n m0 m qh (nI (qa 0 3)) x50 x51) (T : TKn b n m j) (g : aGo (kK b n) i q j qa) (hi : i < j) (w : aW qa) (s9 : qa 0 7 = 9) (h5 : qh 0 5 = qa 0 5) (h4 : qh 0 4 < 300) (hfk : fk fr = 3) (hB : hasB fr = false)
    (eq0 : qa 0 0 = qh 0 0 ∧ qa 0 1 = qh 0 1 ∧ qa 0 2 = qh 0 2 ∧ qa 0 4 = qh 0 4 + 1 ∧ qa 0 6 = s) (eqr : ∀ r, qa 1 r = qh 1 r ∧ qa 2 r = qh 2 r ∧ qa 3 r = qh 3 r ∧ qa 4 r = qh 4 r ∧ qa 5 r = qh 5 r ∧ qa 6 r = qh 6 r ∧ qa 7 r = qh 7 r ∧ qa 8 r = qh 8 r ∧ qa 9 r = (if r = qh 0 4 then fr else qh 9 r) ∧ qa 10 r = (if r = qh 0 4 then qh 0 6 else qh 10 r) ∧ qa 11 r = (if r = qh 0 4 then inn else qh 11 r))
    (bd : shp (qa 0 4) (qa 9) ∧ dSc (qa 0 4) (qa 0 6) (qa 9) (qa 10)) (h50 : 0 < qa 0 2 → x50 = 0) : eWp (f_X8_body gSH F 62 v m) (eOut b n m0 i q) := by
  have hb : ∀ i, i < n → b i < 256 := fun i hi => (hM.2.2.2 i hi).1
  have t0 := T.2.2.2.2.2.2
  have l5 := w.1.1.2.2.2.2.2.2
  unfold f_X8_body
  rw [ob_62, g_ift]
  refine x_is hb T (c := 123) (by decide) (fun hc => ?_) (fun hc => ?_)
  rotate_left
  · rw [if_pos rfl]
    exact x_od R T (fun m' hf => out_hit g t0 (show aT j (kK b n j) qa = (2, qa) by simp [aT, s9, hc]) (by decide) hf)
  rw [if_neg one0]
  have eO : aT j (kK b n j) qa = aOpen qa 10 := by simp [aT, s9, hc]
  refine x_br R T (by omega) (fun ho m' hf => ?_) (fun ho m5 R5 T5 => ?_)
  · exact out_hit (c := 3) (qx := qa) g t0 (by rw [eO]; unfold aOpen; rw [if_pos (by omega)]) (by decide) hf
  refine x_op hR R5 T5 (by simpa [uq] using h4) fr inn (by rw [hfk]; rfl) hB (fun m6 R6 T6 => ?_)
  rw [g_nmb, g_nmb]
  have R7 := ((e_here R6 (v := v) hv).x 0).2.2
  have T7 : TKn b n (gsI (gsI m6 62 49 v) 62 51 0) j := (T6.x (by omega)).x (by omega)
  have e3 : aT j (kK b n j) qa = (0, aTurn (uq qa 0 5 (qa 0 5 + 1)) 10) := by
    rw [eO]
    unfold aOpen
    rw [if_neg (by omega)]
  obtain ⟨c0, c1, c2, c4, c6⟩ := eq0
  have R8 := R7.e2 (q' := aTurn (uq qa 0 5 (qa 0 5 + 1)) 10) (by simp [aTurn, uq, aPush, c0, c1, c2, c4, c6, h5]) (fun r => by
    obtain ⟨d1, d2, d3, d4, d5, d6, d7, d8, d9, d10, d11⟩ := eqr r
    simp [aTurn, uq, aPush, d1, d2, d3, d4, d5, d6, d7, d8, d9, d10, d11])
  have z3 : (aTurn (uq qa 0 5 (qa 0 5 + 1)) 10) 0 3 = qa 0 3 := by simp [aTurn, uq]
  have z2 : (aTurn (uq qa 0 5 (qa 0 5 + 1)) 10) 0 2 = qa 0 2 := by simp [aTurn, uq]
  have z4 : (aTurn (uq qa 0 5 (qa 0 5 + 1)) 10) 0 4 = qa 0 4 := by simp [aTurn, uq]
  have z7 : (aTurn (uq qa 0 5 (qa 0 5 + 1)) 10) 0 7 = 10 := by simp [aTurn, uq]
  have z9 : ∀ j, (aTurn (uq qa 0 5 (qa 0 5 + 1)) 10) 9 j = qa 9 j := by intro j; simp [aTurn, uq]
  refine (fin_next hM hW hF (by rw [z3]; exact R8) T7 (by omega) (g.trans (.step rfl e3 t0 (by omega))) (by omega) (aW_go w e3) ⟨Or.inr ⟨by omega, by omega, ?_⟩, bd_cong bd z4 (by simp [aTurn, uq]) (fun j _ => z9 j) (fun j _ => by simp [aTurn, uq])⟩ (by rw [z2]; exact h50) (fun _ => rfl) (fun h => by omega) (fun h => by omega)).tl (fun r m h => h.z)
  rw [z4, z9, (eqr _).2.2.2.2.2.2.2.2.1, if_pos (by omega)]
  right
  unfold isE
  unfold fk at hfk
  repeat' split at hfk
  all_goals omega
/-- fun NAME { -/
theorem c_fun (hM : MadeR m0 b n) (hW : WdR m0) (hR : RPt m0) (hF : 5000 ≤ F) (h : RB b n m0 m i q) (hst : q 0 7 ≠ 0) (hk : kK b n i = 259) : eWp (f_X8_exp gSH F 62 m) (eOut b n m0 i q) := by
  have hb : ∀ i, i < n → b i < 256 := fun i hi => (hM.2.2.2 i hi).1
  obtain ⟨x50, x51, R, T, w, bd, h50, h51, h12, -⟩ := h
  obtain ⟨s, dp, tf, te⟩ := bd_x bd hst
  have t0 := T.2.2.2.2.2.2
  have hS := w.1
  have l0 := hS.1.2.1
  have l1 := hS.1.2.2.1
  have l5 := hS.1.2.2.2.2.2.2
  have hdp := (aZs_d w.2.1 l5 l1).1
  have e1 : aT i (kK b n i) q = aSW q 2 4 := by
    rw [hk, aT_atom s (by unfold isE at tf; omega) (by omega)]
    simp [aAtom]
  have twN : ∀ {v : Nat}, 10 ≤ v → v ≤ 17 → v ≠ 13 → ¬ m.1 62 38 = nI v := fun h1 h2 h3 e => by
    have := (tk_w hb T h1 h2).mp e
    omega
  unfold f_X8_exp
  rw [ob_62, g_ift, if_neg (fun e => by have := (tk_2 hb T).mp e; omega), if_neg (fun e => by have := (tk_1 hb T).mp e; omega), if_pos (show m.1 62 38 = 13 from (tk_w hb T (w := 13) (by omega) (by omega)).mpr hk)]
  refine eWp.tl ?_ (fun r m h => h.z)
  unfold f_X8_fun
  rw [ob_62, g_ift]
  refine x_sc hR R T l0 (par := q 0 6 + 1) (kd := 2) (by rw [nI_pred]; exact R.2.2.2.1.1.2.2) rfl (fun hs m' hf => ?_) (fun hs m1 R1 T1 => ?_)
  · exact out_hit (c := 5) (qx := q) .refl t0 (by rw [e1]; unfold aSW; rw [if_pos hs]) (by decide) hf
  generalize hq1 : aTurn (aPush (aScope q 2 (q 0 6 + 1)) 2 (q 0 0)) 4 = q1
  have e1' : aT i (kK b n i) q = (0, q1) := by rw [e1]; unfold aSW; rw [if_neg hs, hq1]
  have g1 : aGo (kK b n) i q (i + 1) q1 := .step rfl e1' t0 (by omega)
  have w1 := aW_go w e1'
  have s4 : q1 0 7 = 4 := by rw [← hq1]; simp [aTurn, uq]
  have ti : topI q1 = q 0 0 := by rw [← hq1]; simp [topI, aTurn, aPush, aScope, uq]
  refine x_nx hM hW hF R1 T1 (by omega) (fun m' hbad hf => out_bad g1 hbad hf) (fun m2 R2 T2 => ?_)
  have t2 := T2.2.2.2.2.2.2
  by_cases hn : kK b n (i + 1) = 264
  rotate_left
  · rw [if_neg (fun e => hn ((tk_1 hb T2).mp e))]
    exact x_od R2 T2 (fun m' hf => out_hit g1 t2 (show aT (i + 1) (kK b n (i + 1)) q1 = (2, q1) by simp [aT, s4, hn]) (by decide) hf)
  have e10 : m2.1 62 10 - 1 = nI (q 0 0) := by
    have := R2.2.2.1.1.1
    rw [this]
    simp [aScope, uq]
    exact nI_pred _
  rw [if_pos ((tk_1 hb T2).mpr hn), e10, g_nmb]
  have eN : aT (i + 1) (kK b n (i + 1)) q1 = aDeclIn (i + 1) (uq q1 0 6 (q 0 0)) (q 0 0) 9 := by simp [aT, aName, s4, hn, ti]
  have f1 : (uq q1 0 6 (q 0 0)) 0 1 = q 0 1 := by rw [← hq1]; simp [aTurn, aPush, aScope, uq]
  have f1' : (aScope q 2 (q 0 6 + 1)) 0 1 = q 0 1 := by simp [aScope, uq]
  refine x_dc hR R2 T2 hn (by rw [f1']; exact l1) (sc := q 0 0) rfl (has := 0) (by decide) (fun hd m' hf => ?_) (fun hd m3 R3 T3 => ?_)
  · rw [f1'] at hd
    exact out_hit (c := 4) (qx := uq q1 0 6 (q 0 0)) g1 t2 (by rw [eN]; unfold aDeclIn; rw [f1, if_pos hd]) (by decide) hf
  rw [f1'] at hd
  generalize hq2 : aTurn (aDecl (uq q1 0 6 (q 0 0)) (q 0 0) (i + 1) 0) 9 = q2
  have e2 : aT (i + 1) (kK b n (i + 1)) q1 = (0, q2) := by
    rw [eN]
    unfold aDeclIn
    rw [f1, if_neg hd, hq2]
  have g2 : aGo (kK b n) i q (i + 1 + 1) q2 := g1.trans (.step rfl e2 t2 (by omega))
  have w2 := aW_go w1 e2
  refine x_nx hM hW hF R3 T3 (by omega) (fun m' hbad hf => out_bad g2 hbad hf) (fun m4 R4 T4 => ?_)
  have z3 : q2 0 3 = q 0 3 := by rw [← hq2, ← hq1]; simp [aTurn, aPush, aScope, aDecl, uq]
  have z4 : q2 0 4 = q 0 4 + 1 := by rw [← hq2, ← hq1]; simp [aTurn, aPush, aScope, aDecl, uq]
  have z9 : ∀ r, q2 9 r = if r = q 0 4 then 2 else q 9 r := by intro r; rw [← hq2, ← hq1]; simp [aTurn, aPush, aScope, aDecl, uq]
  have z10 : ∀ r, q2 10 r = if r = q 0 4 then q 0 6 else q 10 r := by intro r; rw [← hq2, ← hq1]; simp [aTurn, aPush, aScope, aDecl, uq]
  refine (e_body hM hW hR hF (fr := 2) (inn := q 0 0) rfl (by rw [z3]; exact R4) T4 g2 (by omega) w2 (by rw [← hq2]; simp [aTurn, uq]) (by rw [← hq2, ← hq1]; simp [aTurn, aPush, aScope, aDecl, uq]) (by simp [aScope, aDecl, uq]; omega) rfl rfl (by rw [← hq2, ← hq1]; simp [aTurn, aPush, aScope, aDecl, uq]) (fun r => by rw [← hq2, ← hq1]; simp [aTurn, aPush, aScope, aDecl, uq]) ⟨?_, ?_⟩ (by rw [← hq2, ← hq1]; simpa [aTurn, aPush, aScope, aDecl, uq] using h50)).tl (fun r m h => h.z)
  · rw [z4]
    rw [te] at tf
    exact bd.2.1.push (fun j hj => by rw [z9, if_neg (by omega)]) (Or.inr ⟨by rw [z9, if_pos rfl]; unfold isE; omega, dp, tf⟩)
  · rw [z4]
    exact bd.2.2.push (fun j hj => by rw [z9, if_neg (by omega)]) (fun j hj => by rw [z10, if_neg (by omega)]) (by rw [z10, if_pos rfl]) (fun h => by rw [z9, if_pos rfl] at h; omega)
/-- ( -/
theorem c_round (hM : MadeR m0 b n) (hW : WdR m0) (hR : RPt m0) (hF : 5000 ≤ F) (h : RB b n m0 m i q) (hst : q 0 7 ≠ 0) (hk : kK b n i = 40) : eWp (f_X8_exp gSH F 62 m) (eOut b n m0 i q) := by
  have hb : ∀ i, i < n → b i < 256 := fun i hi => (hM.2.2.2 i hi).1
  obtain ⟨x50, x51, R, T, w, bd, h50, h51, h12, -⟩ := h
  obtain ⟨s, dp, tf, te⟩ := bd_x bd hst
  have t0 := T.2.2.2.2.2.2
  have hS := w.1
  have l1 := hS.1.2.2.1
  have l5 := hS.1.2.2.2.2.2.2
  have hdp := (aZs_d w.2.1 l5 l1).1
  have e1 : aT i (kK b n i) q = aOpen (aPush q 12 (q 0 6)) 10 := by
    rw [hk, aT_atom s (by unfold isE at tf; omega) (by omega)]
    simp [aAtom]
  have twN : ∀ {v : Nat}, 10 ≤ v → v ≤ 17 → ¬ m.1 62 38 = nI v := fun h1 h2 e => by
    have := (tk_w hb T h1 h2).mp e
    omega
  unfold f_X8_exp
  rw [ob_62, g_ift, if_neg (fun e => by have := (tk_2 hb T).mp e; omega), if_neg (fun e => by have := (tk_1 hb T).mp e; omega), if_neg (show ¬ m.1 62 38 = 13 from twN (v := 13) (by omega) (by omega)), if_neg (show ¬ m.1 62 38 = 14 from twN (v := 14) (by omega) (by omega)), if_neg (show ¬ m.1 62 38 = 15 from twN (v := 15) (by omega) (by omega)), if_neg (show ¬ m.1 62 38 = 16 from twN (v := 16) (by omega) (by omega))]
  refine x_is hb T (c := 40) (by decide) (fun hc => ?_) (fun hc => absurd hk hc)
  rw [if_neg one0]
  have f5 : (aPush q 12 (q 0 6)) 0 5 = q 0 5 := by simp [aPush, uq]
  refine x_br R T l5 (fun ho m' hf => ?_) (fun ho m5 R5 T5 => ?_)
  · exact out_hit (c := 3) (qx := aPush q 12 (q 0 6)) .refl t0 (by rw [e1]; unfold aOpen; rw [f5, if_pos ho]) (by decide) hf
  refine x_op hR R5 T5 (by simp [uq]; omega) 12 (q 0 6) rfl rfl (fun m6 R6 T6 => ?_)
  rw [g_nmb]
  generalize hq1 : aTurn (uq (aPush q 12 (q 0 6)) 0 5 (q 0 5 + 1)) 10 = q1
  have e3 : aT i (kK b n i) q = (0, q1) := by
    rw [e1]
    unfold aOpen
    rw [f5, if_neg ho, hq1]
  have R8 := ((R6.x 0).2.2).e2 (q' := q1) (by rw [← hq1]; simp [aTurn, uq, aPush]) (fun r => by rw [← hq1]; simp [aTurn, uq, aPush])
  have z3 : q1 0 3 = q 0 3 := by rw [← hq1]; simp [aTurn, uq, aPush]
  have z4 : q1 0 4 = q 0 4 + 1 := by rw [← hq1]; simp [aTurn, uq, aPush]
  have z7 : q1 0 7 = 10 := by rw [← hq1]; simp [aTurn, uq, aPush]
  have z9 : ∀ r, q1 9 r = if r = q 0 4 then 12 else q 9 r := by intro r; rw [← hq1]; simp [aTurn, aPush, uq]
  have z10 : ∀ r, q1 10 r = if r = q 0 4 then q 0 6 else q 10 r := by intro r; rw [← hq1]; simp [aTurn, aPush, uq]
  refine (fin_next hM hW hF (by rw [z3]; exact R8) (T6.x (by omega)) (by omega) (.step rfl e3 t0 (by omega)) (by omega) (aW_go w e3) ⟨Or.inr ⟨by omega, by omega, ?_⟩, ?_, ?_⟩ (by rw [← hq1]; simpa [aTurn, uq, aPush] using h50) (fun _ => rfl) (fun h => by omega) (fun h => by omega)).tl (fun r m h => h.z)
  · rw [z4, z9, if_pos (by omega)]
    unfold isE
    omega
  · rw [z4]
    rw [te] at tf
    exact bd.2.1.push (fun j hj => by rw [z9, if_neg (by omega)]) (Or.inr ⟨by rw [z9, if_pos rfl]; unfold isE; omega, dp, tf⟩)
  · rw [z4]
    exact bd.2.2.push (fun j hj => by rw [z9, if_neg (by omega)]) (fun j hj => by rw [z10, if_neg (by omega)]) (by rw [z10, if_pos rfl]) (fun h => by rw [z9, if_pos rfl] at h; omega)
end REF
