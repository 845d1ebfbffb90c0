/-! THE REFERENCE'S READER: long names -/
def pa (q q' : Nat → Nat → Nat) : Prop := ∀ c j, c ≤ 8 → (c = 0 → j ≤ 2) → q' c j = q c j
def fa (q q' : Nat → Nat → Nat) : Prop := ∀ c j, (c = 0 ∧ 3 ≤ j ∧ j ≤ 8 ∧ j ≠ 7) ∨ (9 ≤ c ∧ c ≤ 11) → q' c j = q c j
theorem fa.trans {q q' q'' : Nat → Nat → Nat} (h : fa q q') (k : fa q' q'') : fa q q'' := fun c j hc => (k c j hc).trans (h c j hc)
section REF
variable {b : Nat → Nat} {n F : Nat} {m0 m : gM} {q qa qh : Nat → Nat → Nat} {x21 x50 x51 : Int32} {i j : Nat}
/-- what follows a name in readLong -/
def lgT (F : Nat) (k7 : Nat → Int32 → Int32 → gM → Option (Int32 × gM)) (x2 : Int32) (m15 : gM) : Option (Int32 × gM) := (f_X8_next gSH F 62 m15).bind (fun q18 => nm q18.1 (fun r17 => nm q18.2 (fun m16 => if r17 = 0 then (some (0, m16)) else ((f_X8_is gSH F 62 46 m16).bind (fun q22 => nm q22.1 (fun r21 => nm q22.2 (fun m20 => if r21 = 0 then (k7 62 r21 x2 m20) else ((f_X8_next gSH F 62 m20).bind (fun q26 => nm q26.1 (fun r25 => nm q26.2 (fun m24 => if r25 = 0 then (some (0, m24)) else (if (m24.1 62 38) = (1 : Int32) then (nm (gsI m24 62 50 1) (fun m29 => k7 62 r21 x2 m29)) else ((f_X8_odd gSH F 62 m24).bind (fun q32 => nm q32.1 (fun r31 => nm q32.2 (fun m30 => g_if (zB r31) (some (r31, m30))))))))))))))))))
theorem e_ref (hR : RPt m0) (h : RM b n m0 m q x21 x50 x51) (t : TKn b n m j) (hk : kK b n j = 264) (hn : q 0 2 < 100) {x2 : Int32} {sc : Nat} (hx : x2 = nI sc) (k7 : Nat → Int32 → Int32 → gM → Option (Int32 × gM)) :
    ∃ m', b_X8_readLong_92 gSH F k7 62 x2 m = lgT F k7 x2 m' ∧ RM b n m0 m' (aRef q sc j) x21 0 x51 ∧ TKn b n m' j := by
  obtain ⟨k, h7, ⟨⟨a1, a2, a3⟩, b1, b2, b3⟩, f, e21, e50, e51⟩ := h
  obtain ⟨⟨r8, r9, r11, r12, r13, r14, r16, r17, r18, r19⟩, -⟩ := hR
  have t40 := t.1
  have t41 := t.2.2.2.2.1 (by omega) (by omega)
  refine ⟨gsI (gsI (gsI (gsI (gsI (gsI m 72 (q 0 2) x2) 73 (q 0 2) (nI (kS b n j))) 74 (q 0 2) (nI (kL b n j))) 75 (q 0 2) (-1)) 62 20 (nI (q 0 2 + 1))) 62 50 0, ?_, ⟨(((((k.r (by unfold rdR; omega)).r (by unfold rdR; omega)).r (by unfold rdR; omega)).r (by unfold rdR; omega)).s (by decide)).s (by decide), ?_, ⟨⟨?_, ?_, ?_⟩, fun i hi => ?_, fun i hi => ?_, fun i hi => ?_⟩, ?_, ?_, ?_, ?_⟩, (((((t.x (by omega)).x (by omega)).x (by omega)).x (by omega)).x (by omega)).x (by omega)⟩
  · unfold b_X8_readLong_92
    have c3 : (nI (q 0 2)).toNatClampNeg = q 0 2 := nI_clamp (by omega)
    have c4 : aB gSH 72 .int (nI (q 0 2)) = true := g_inI (N := 101) (by omega) (by decide)
    have c5 : aB gSH 73 .int (nI (q 0 2)) = true := g_inI (N := 101) (by omega) (by decide)
    have c6 : aB gSH 74 .int (nI (q 0 2)) = true := g_inI (N := 101) (by omega) (by decide)
    have c7 : aB gSH 75 .int (nI (q 0 2)) = true := g_inI (N := 101) (by omega) (by decide)
    rw [← k.2.2] at r16 r17 r18 r19
    rw [ob_62, g_ift, r16, g_bs, a3, c4, g_ift, g_nmb, show (gsI m 72 (nI (q 0 2)).toNatClampNeg x2).2.2 62 17 = some 73 from r17, g_bs, show (gsI m 72 (nI (q 0 2)).toNatClampNeg x2).1 62 20 = nI (q 0 2) from a3, c5, g_ift, g_nmb, show (gsI m 72 (nI (q 0 2)).toNatClampNeg x2).1 62 40 = nI (kS b n j) from t40, c3]
    generalize hm2 : gsI (gsI m 72 (q 0 2) x2) 73 (q 0 2) (nI (kS b n j)) = m2
    rw [show m2.2.2 62 18 = some 74 by rw [← hm2]; exact r18, g_bs, show m2.1 62 20 = nI (q 0 2) by rw [← hm2]; exact a3, c6, g_ift, g_nmb, show m2.1 62 41 = nI (kL b n j) by rw [← hm2]; exact t41, c3]
    generalize hm3 : gsI m2 74 (q 0 2) (nI (kL b n j)) = m3
    rw [show m3.2.2 62 19 = some 75 by rw [← hm3, ← hm2]; exact r19, g_bs, show m3.1 62 20 = nI (q 0 2) by rw [← hm3, ← hm2]; exact a3, c7, g_ift, g_nmb, c3, g_nmb, g_nmb, show (gsI m3 75 (q 0 2) (-1)).1 62 20 = nI (q 0 2) by rw [← hm3, ← hm2]; exact a3, nI_1]
    rfl
  · simpa [gI_1] using h7
  · simpa [gI_1, aRef, uq] using a1
  · simpa [gI_1, aRef, uq] using a2
  · simp [gI_1, aRef, uq]
  · have := b1 i (by simpa [aRef, uq] using hi)
    simpa [gI_1, aRef, uq] using this
  · have := b2 i (by simpa [aRef, uq] using hi)
    simpa [gI_1, aRef, uq] using this
  · simp [aRef, uq] at hi
    by_cases e : i = q 0 2
    · subst e
      simp [gI_1, aRef, uq, hx]
      decide
    · have := b3 i (by omega)
      simpa [gI_1, aRef, uq, e] using this
  · exact RFr.eq (q := q) (by simpa [RFr, gI_1] using f) (fun c j hc => by
      simp only [aRef, uq]
      rw [if_neg (by omega), if_neg (by omega), if_neg (by omega), if_neg (by omega), if_neg (by omega)])
  · simpa [gI_1] using e21
  · simp [gI_1]
  · simpa [gI_1] using e51
theorem e_impr (h : RM b n m0 m q x21 x50 x51) {v : Int32} {w : Nat} (hv : v = nI w - 1) : RM b n m0 (gsI m 75 (q 0 2 - 1) v) (uq q 8 (q 0 2 - 1) w) x21 x50 x51 := by
  obtain ⟨k, h7, ⟨⟨a1, a2, a3⟩, b1, b2, b3⟩, f, e21, e50, e51⟩ := h
  refine ⟨k.r (by unfold rdR; omega), ?_, ⟨⟨?_, ?_, ?_⟩, fun i hi => ?_, fun i hi => ?_, fun i hi => ?_⟩, ?_, ?_, ?_, ?_⟩
  · simpa [gI_1] using h7
  · simpa [gI_1, uq] using a1
  · simpa [gI_1, uq] using a2
  · simpa [gI_1, uq] using a3
  · have := b1 i (by simpa [uq] using hi)
    simpa [gI_1, uq] using this
  · have := b2 i (by simpa [uq] using hi)
    simpa [gI_1, uq] using this
  · have h3 := b3 i (by simpa [uq] using hi)
    by_cases e : i = q 0 2 - 1
    · subst e
      simp [gI_1, uq, h3.1, h3.2.1, h3.2.2.1, hv]
    · simpa [gI_1, uq, e] using h3
  · exact RFr.eq (q := q) (by simpa [RFr, gI_1] using f) (fun c j hc => by
      simp only [uq]
      rw [if_neg (by omega)])
  · simpa [gI_1] using e21
  · simpa [gI_1] using e50
  · simpa [gI_1] using e51
/-- what readLong gives: qs the abstract table at its start, qf the reference's frames -/
def eLong (b : Nat → Nat) (n : Nat) (m0 : gM) (i : Nat) (q qs qf : Nat → Nat → Nat) (j0 : Nat) (x21 x51 : Int32) (r : Int32) (m' : gM) : Prop :=
  (r = 1 ∧ ∃ j' qa qh, aGo (kK b n) i q j' qa ∧ j0 < j' ∧ qa 0 7 = 11 ∧ kK b n j' ≠ 46 ∧ RM b n m0 m' qh x21 0 x51 ∧ TKn b n m' j' ∧ aW qa ∧ 0 < qa 0 2 ∧ pa qa qh ∧ fa qs qa ∧ fa qf qh ∧ qs 0 2 ≤ qa 0 2 ∧ (∀ c j, 12 ≤ c → c ≠ 15 → qa c j = qs c j)) ∨ (r = 0 ∧ ∃ c i', c ≠ 0 ∧ c < 2 ^ 31 ∧ aEnd (kK b n) i q c i' ∧ FLt b n m0 m' c i')
theorem eLong.z {qs qf : Nat → Nat → Nat} {j0 : Nat} {r : Int32} (h : eLong b n m0 i q qs qf j0 x21 x51 r m) : r = 0 ∨ r = 1 := by
  rcases h with h | h
  · exact Or.inr h.1
  · exact Or.inl h.1
theorem long_bad {qs qf : Nat → Nat → Nat} {j0 : Nat} {m' : gM} (h : eOut b n m0 i q 0 m') : eLong b n m0 i q qs qf j0 x21 x51 0 m' := by
  rcases h with h | h
  · exact absurd h.1 (by decide)
  · exact Or.inr h
theorem e_longT (hM : MadeR m0 b n) (hW : WdR m0) (hR : RPt m0) (hF : 5000 ≤ F) {qs qf : Nat → Nat → Nat} {j0 : Nat} : ∀ (k N j : Nat) (m : gM) (qa qh : Nat → Nat → Nat) (x2 : Int32), j + k = 4001 → k < N → RM b n m0 m qh x21 0 x51 → TKn b n m j → kK b n j ≠ 266 → pa qa qh → aW qa → qa 0 7 = 11 → 0 < qa 0 2 → aGo (kK b n) i q (j + 1) qa → j0 ≤ j → fa qs qa → fa qf qh → qs 0 2 ≤ qa 0 2 → (∀ c j, 12 ≤ c → c ≠ 15 → qa c j = qs c j) →
    eWp (lgT F (l_X8_readLong_7 gSH F N) x2 m) (eLong b n m0 i q qs qf j0 x21 x51) := by
  have hb : ∀ i, i < n → b i < 256 := fun i hi => (hM.2.2.2 i hi).1
  intro k
  induction k using Nat.strongRecOn with
  | ind k ih =>
  intro N j m qa qh x2 hj hN R T hk P w s7 hp g hj0 Fa Fh hlt hrow
  obtain ⟨N, rfl⟩ : ∃ N', N = N' + 1 := ⟨N - 1, by omega⟩
  unfold lgT
  refine x_nx hM hW hF R T hk (fun m' hbad hf => long_bad (out_bad g hbad hf)) (fun m1 R1 T1 => ?_)
  have t1 := T1.2.2.2.2.2.2
  refine x_is hb T1 (c := 46) (by decide) (fun hc => ?_) (fun hc => ?_)
  rotate_left
  · rw [if_pos rfl]
    show eWp (b_X8_readLong_7 gSH F (l_X8_readLong_7 gSH F N) 62 0 x2 m1) _
    unfold b_X8_readLong_7
    rw [if_pos rfl]
    exact .so (Or.inl ⟨rfl, j + 1, qa, qh, g, by omega, s7, hc, R1, T1, w, hp, P, Fa, Fh, hlt, hrow⟩)
  rw [if_neg one0]
  have e1 : aT (j + 1) (kK b n (j + 1)) qa = (0, aTurn qa 6) := by simp [aT, s7, hc]
  have g1 : aGo (kK b n) i q (j + 1 + 1) (aTurn qa 6) := g.trans (.step rfl e1 t1 (by omega))
  have w1 := aW_go w e1
  have s6 : (aTurn qa 6) 0 7 = 6 := by simp [aTurn, uq]
  refine x_nx hM hW hF R1 T1 (by omega) (fun m' hbad hf => long_bad (out_bad g1 hbad hf)) (fun m2 R2 T2 => ?_)
  have t2 := T2.2.2.2.2.2.2
  by_cases hn : kK b n (j + 1 + 1) = 264
  rotate_left
  · rw [if_neg (fun e => hn ((tk_1 hb T2).mp e))]
    exact x_od R2 T2 (fun m' hf => long_bad (out_hit g1 t2 (show aT (j + 1 + 1) (kK b n (j + 1 + 1)) (aTurn qa 6) = (2, aTurn qa 6) by simp [aT, s6, hn]) (by decide) hf))
  rw [if_pos ((tk_1 hb T2).mpr hn), g_nmb]
  have R3 := (R2.x 1).2.1
  have T3 : TKn b n (gsI m2 62 50 1) (j + 1 + 1) := T2.x (by omega)
  generalize gsI m2 62 50 1 = m3 at R3 T3
  have p0 : qh 0 0 = qa 0 0 := P 0 0 (by omega) (by omega)
  have p2 : qh 0 2 = qa 0 2 := P 0 2 (by omega) (by omega)
  have f0 : (aTurn qa 6) 0 0 = qa 0 0 := by simp [aTurn, uq]
  have f2 : (aTurn qa 6) 0 2 = qa 0 2 := by simp [aTurn, uq]
  have eN : aT (j + 1 + 1) (kK b n (j + 1 + 1)) (aTurn qa 6) = aNext (j + 1 + 1) (aTurn qa 6) := by simp [aT, aName, s6, hn]
  have l2 := w.1.1.2.2.2.1
  have l0 := w.1.1.2.1
  have e20 := R3.2.2.1.1.2.2
  rw [p2] at e20
  show eWp (b_X8_readLong_7 gSH F (l_X8_readLong_7 gSH F N) 62 1 x2 m3) _
  unfold b_X8_readLong_7
  rw [if_neg one0, ob_62, g_ift, e20]
  by_cases h100 : 100 ≤ qa 0 2
  · rw [if_pos (show nI (qa 0 2) = 100 by rw [show qa 0 2 = 100 by omega]; rfl)]
    exact x_bl (c := 4) R3 T3 (fun m' hf => long_bad (out_hit (c := 4) (qx := aTurn qa 6) g1 t2 (by rw [eN]; unfold aNext; rw [f2, if_neg (by omega), if_pos h100]) (by decide) hf))
  rw [if_neg (show ¬ nI (qa 0 2) = 100 from fun e => by
    have := (k_lit (k := qa 0 2) (v := 100) (by omega) (by omega)).mp e
    omega), if_neg (show ¬ nI (qa 0 2) ≤ 0 from nI_ge (a := 0) hp (by omega)), R3.2.2.2.2.2.1, if_neg one0, ite_self]
  unfold b_X8_readLong_52
  rw [ob_62, g_ift]
  refine x_sc hR R3 T3 (by rw [p0]; exact l0) (par := 0) (kd := 6) (by decide) rfl (fun hs m' hf => ?_) (fun hs m4 R4 T4 => ?_)
  · rw [p0] at hs
    exact long_bad (out_hit (c := 5) (qx := aTurn qa 6) g1 t2 (by rw [eN]; unfold aNext; rw [f2, f0, if_neg (by omega), if_neg h100, if_pos hs]) (by decide) hf)
  rw [p0] at hs
  have e420 : m4.1 62 20 = nI (qa 0 2) := by
    have := R4.2.2.1.1.2.2
    rw [← p2]
    simpa [aScope, uq] using this
  have e410 : m4.1 62 10 - 1 = nI (qa 0 0) := by
    have := R4.2.2.1.1.1
    rw [this, ← p0]
    simp [aScope, uq]
    exact nI_pred _
  rw [show m4.2.2 62 19 = some 75 by rw [R4.1.2.2]; exact hR.1.2.2.2.2.2.2.2.2.2, g_bs, e420, nI_p1 hp, show aB gSH 75 .int (nI (qa 0 2 - 1)) = true from g_inI (N := 101) (by omega) (by decide), g_ift, nI_clamp (by omega), g_nmb, e410]
  have R5 := e_impr R4 (v := nI (qa 0 0)) (w := qa 0 0 + 1) (nI_pred _).symm
  rw [show (aScope qh 6 0) 0 2 = qa 0 2 by rw [← p2]; simp [aScope, uq]] at R5
  have T5 : TKn b n (gsI m4 75 (qa 0 2 - 1) (nI (qa 0 0))) (j + 1 + 1) := T4.x (by omega)
  have e510 : (gsI m4 75 (qa 0 2 - 1) (nI (qa 0 0))).1 62 10 - 1 = nI (qa 0 0) := e410
  generalize gsI m4 75 (qa 0 2 - 1) (nI (qa 0 0)) = m5 at R5 T5 e510
  rw [e510, g_nmb]
  obtain ⟨m6, e6, R6, T6⟩ := e_ref (F := F) hR R5 T5 hn (by simp [aScope, uq]; omega) (sc := qa 0 0) rfl (l_X8_readLong_7 gSH F N)
  rw [e6]
  generalize hq2 : aTurn (aRef (uq (aScope (aTurn qa 6) 6 0) 8 (qa 0 2 - 1) (qa 0 0 + 1)) (qa 0 0) (j + 1 + 1)) 11 = q2
  have e2 : aT (j + 1 + 1) (kK b n (j + 1 + 1)) (aTurn qa 6) = (0, q2) := by
    rw [eN]
    unfold aNext
    rw [f2, f0, if_neg (by omega), if_neg h100, if_neg hs, hq2]
  have n4 := hM.2.2.1
  have tb := T2.2.2.2.2.2.1
  refine ih (k - 2) (by omega) N (j + 1 + 1) m6 q2 _ (nI (qa 0 0)) (by omega) (by omega) R6 T6 (by omega) ?_ (aW_go w1 e2) (by rw [← hq2]; simp [aTurn, uq]) (by rw [← hq2]; simp [aTurn, aRef, aScope, uq]) (g1.trans (.step rfl e2 t2 (by omega))) (by omega) (Fa.trans ?_) (Fh.trans ?_) (by rw [← hq2]; simp [aTurn, aRef, aScope, uq]; omega) (fun c j hc h15 => ?_)
  · intro c r hc h0
    have ea := P c r hc h0
    rw [← hq2]
    simp only [aTurn, aRef, aScope, uq, p0, p2, ea]
    have h7 : ¬ (c = 0 ∧ r = 7) := by omega
    simp [h7]
  · intro c r hc
    rw [← hq2]
    simp only [aTurn, aRef, aScope, uq]
    repeat' rw [if_neg (by omega)]
  · intro c r hc
    simp only [aTurn, aRef, aScope, uq]
    repeat' rw [if_neg (by omega)]
  · rw [← hrow c j hc h15, ← hq2]
    simp only [aTurn, aRef, aScope, uq]
    repeat' rw [if_neg (by omega)]
end REF
